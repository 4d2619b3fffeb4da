theorem dX10_back_33 : decode cX10_back 33 = .ok (.if_icmp .ge 27, 3) := by decide +kernel
theorem dX10_back_36 : decode cX10_back 36 = .ok (.aload_n 0, 1) := by decide +kernel
theorem dX10_back_37 : decode cX10_back 37 = .ok (.getfield 9, 3) := by decide +kernel
theorem dX10_back_40 : decode cX10_back 40 = .ok (.iload_n 2, 1) := by decide +kernel
theorem dX10_back_41 : decode cX10_back 41 = .ok (.aload_n 0, 1) := by decide +kernel
theorem dX10_back_42 : decode cX10_back 42 = .ok (.getfield 13, 3) := by decide +kernel
theorem dX10_back_45 : decode cX10_back 45 = .ok (.sipush 201, 3) := by decide +kernel
theorem dX10_back_48 : decode cX10_back 48 = .ok (.iload_n 1, 1) := by decide +kernel
theorem dX10_back_49 : decode cX10_back 49 = .ok (.imul, 1) := by decide +kernel
theorem dX10_back_50 : decode cX10_back 50 = .ok (.iload_n 2, 1) := by decide +kernel
theorem dX10_back_51 : decode cX10_back 51 = .ok (.iadd, 1) := by decide +kernel
theorem dX10_back_52 : decode cX10_back 52 = .ok (.iaload, 1) := by decide +kernel
theorem dX10_back_53 : decode cX10_back 53 = .ok (.iastore, 1) := by decide +kernel
theorem dX10_back_54 : decode cX10_back 54 = .ok (.iinc 2 1, 3) := by decide +kernel
theorem dX10_back_57 : decode cX10_back 57 = .ok (.goto (-28), 3) := by decide +kernel
theorem dX10_back_60 : decode cX10_back 60 = .ok (.iconst 0, 1) := by decide +kernel
theorem dX10_back_61 : decode cX10_back 61 = .ok (.ireturn, 1) := by decide +kernel
theorem dX10_isBoard_0 : decode cX10_isBoard 0 = .ok (.aload_n 0, 1) := by decide +kernel
theorem dX10_isBoard_1 : decode cX10_isBoard 1 = .ok (.getfield 9, 3) := by decide +kernel
theorem dX10_isBoard_4 : decode cX10_isBoard 4 = .ok (.bipush 7, 2) := by decide +kernel
theorem dX10_isBoard_6 : decode cX10_isBoard 6 = .ok (.iaload, 1) := by decide +kernel
theorem dX10_isBoard_7 : decode cX10_isBoard 7 = .ok (.ifCond .le 7, 3) := by decide +kernel
theorem dX10_isBoard_10 : decode cX10_isBoard 10 = .ok (.iconst 1, 1) := by decide +kernel
theorem dX10_isBoard_11 : decode cX10_isBoard 11 = .ok (.goto 4, 3) := by decide +kernel
theorem dX10_isBoard_14 : decode cX10_isBoard 14 = .ok (.iconst 0, 1) := by decide +kernel
theorem dX10_isBoard_15 : decode cX10_isBoard 15 = .ok (.ireturn, 1) := by decide +kernel
theorem dX10_isTask_0 : decode cX10_isTask 0 = .ok (.iload_n 1, 1) := by decide +kernel
theorem dX10_isTask_1 : decode cX10_isTask 1 = .ok (.i2l, 1) := by decide +kernel
theorem dX10_isTask_2 : decode cX10_isTask 2 = .ok (.lconst 0, 1) := by decide +kernel
theorem dX10_isTask_3 : decode cX10_isTask 3 = .ok (.aload_n 0, 1) := by decide +kernel
theorem dX10_isTask_4 : decode cX10_isTask 4 = .ok (.getfield 9, 3) := by decide +kernel
theorem dX10_isTask_7 : decode cX10_isTask 7 = .ok (.iconst 4, 1) := by decide +kernel
theorem dX10_isTask_8 : decode cX10_isTask 8 = .ok (.iaload, 1) := by decide +kernel
theorem dX10_isTask_9 : decode cX10_isTask 9 = .ok (.iconst 1, 1) := by decide +kernel
theorem dX10_isTask_10 : decode cX10_isTask 10 = .ok (.isub, 1) := by decide +kernel
theorem dX10_isTask_11 : decode cX10_isTask 11 = .ok (.i2l, 1) := by decide +kernel
theorem dX10_isTask_12 : decode cX10_isTask 12 = .ok (.invokestatic 152, 3) := by decide +kernel
theorem dX10_isTask_15 : decode cX10_isTask 15 = .ok (.ireturn, 1) := by decide +kernel
theorem dX10_isWatcher_0 : decode cX10_isWatcher 0 = .ok (.iload_n 1, 1) := by decide +kernel
theorem dX10_isWatcher_1 : decode cX10_isWatcher 1 = .ok (.i2l, 1) := by decide +kernel
theorem dX10_isWatcher_2 : decode cX10_isWatcher 2 = .ok (.lconst 0, 1) := by decide +kernel
theorem dX10_isWatcher_3 : decode cX10_isWatcher 3 = .ok (.aload_n 0, 1) := by decide +kernel
theorem dX10_isWatcher_4 : decode cX10_isWatcher 4 = .ok (.getfield 9, 3) := by decide +kernel
theorem dX10_isWatcher_7 : decode cX10_isWatcher 7 = .ok (.iconst 3, 1) := by decide +kernel
theorem dX10_isWatcher_8 : decode cX10_isWatcher 8 = .ok (.iaload, 1) := by decide +kernel
theorem dX10_isWatcher_9 : decode cX10_isWatcher 9 = .ok (.iconst 1, 1) := by decide +kernel
theorem dX10_isWatcher_10 : decode cX10_isWatcher 10 = .ok (.isub, 1) := by decide +kernel
theorem dX10_isWatcher_11 : decode cX10_isWatcher 11 = .ok (.i2l, 1) := by decide +kernel
theorem dX10_isWatcher_12 : decode cX10_isWatcher 12 = .ok (.invokestatic 152, 3) := by decide +kernel
theorem dX10_isWatcher_15 : decode cX10_isWatcher 15 = .ok (.ireturn, 1) := by decide +kernel
theorem dX10_toldOf_0 : decode cX10_toldOf 0 = .ok (.aload_n 0, 1) := by decide +kernel
theorem dX10_toldOf_1 : decode cX10_toldOf 1 = .ok (.getfield 9, 3) := by decide +kernel
theorem dX10_toldOf_4 : decode cX10_toldOf 4 = .ok (.bipush 11, 2) := by decide +kernel
theorem dX10_toldOf_6 : decode cX10_toldOf 6 = .ok (.bipush 7, 2) := by decide +kernel
theorem dX10_toldOf_8 : decode cX10_toldOf 8 = .ok (.iload_n 1, 1) := by decide +kernel
theorem dX10_toldOf_9 : decode cX10_toldOf 9 = .ok (.imul, 1) := by decide +kernel
theorem dX10_toldOf_10 : decode cX10_toldOf 10 = .ok (.iadd, 1) := by decide +kernel
theorem dX10_toldOf_11 : decode cX10_toldOf 11 = .ok (.iload_n 2, 1) := by decide +kernel
theorem dX10_toldOf_12 : decode cX10_toldOf 12 = .ok (.iadd, 1) := by decide +kernel
theorem dX10_toldOf_13 : decode cX10_toldOf 13 = .ok (.iaload, 1) := by decide +kernel
theorem dX10_toldOf_14 : decode cX10_toldOf 14 = .ok (.ireturn, 1) := by decide +kernel
theorem dX10_period_0 : decode cX10_period 0 = .ok (.aload_n 0, 1) := by decide +kernel
theorem dX10_period_1 : decode cX10_period 1 = .ok (.iload_n 1, 1) := by decide +kernel
theorem dX10_period_2 : decode cX10_period 2 = .ok (.iconst 1, 1) := by decide +kernel
theorem dX10_period_3 : decode cX10_period 3 = .ok (.invokevirtual 156, 3) := by decide +kernel
theorem dX10_period_6 : decode cX10_period 6 = .ok (.ireturn, 1) := by decide +kernel
theorem dX10_nodesOf_0 : decode cX10_nodesOf 0 = .ok (.aload_n 0, 1) := by decide +kernel
theorem dX10_nodesOf_1 : decode cX10_nodesOf 1 = .ok (.iload_n 1, 1) := by decide +kernel
theorem dX10_nodesOf_2 : decode cX10_nodesOf 2 = .ok (.bipush 6, 2) := by decide +kernel
theorem dX10_nodesOf_4 : decode cX10_nodesOf 4 = .ok (.invokevirtual 156, 3) := by decide +kernel
theorem dX10_nodesOf_7 : decode cX10_nodesOf 7 = .ok (.ireturn, 1) := by decide +kernel
theorem dX10_unitsOf_0 : decode cX10_unitsOf 0 = .ok (.aload_n 0, 1) := by decide +kernel
theorem dX10_unitsOf_1 : decode cX10_unitsOf 1 = .ok (.getfield 9, 3) := by decide +kernel
theorem dX10_unitsOf_4 : decode cX10_unitsOf 4 = .ok (.bipush 46, 2) := by decide +kernel
theorem dX10_unitsOf_6 : decode cX10_unitsOf 6 = .ok (.iconst 2, 1) := by decide +kernel
theorem dX10_unitsOf_7 : decode cX10_unitsOf 7 = .ok (.bipush 6, 2) := by decide +kernel
theorem dX10_unitsOf_9 : decode cX10_unitsOf 9 = .ok (.iload_n 1, 1) := by decide +kernel
theorem dX10_unitsOf_10 : decode cX10_unitsOf 10 = .ok (.imul, 1) := by decide +kernel
theorem dX10_unitsOf_11 : decode cX10_unitsOf 11 = .ok (.iload_n 2, 1) := by decide +kernel
theorem dX10_unitsOf_12 : decode cX10_unitsOf 12 = .ok (.iadd, 1) := by decide +kernel
theorem dX10_unitsOf_13 : decode cX10_unitsOf 13 = .ok (.imul, 1) := by decide +kernel
theorem dX10_unitsOf_14 : decode cX10_unitsOf 14 = .ok (.iadd, 1) := by decide +kernel
theorem dX10_unitsOf_15 : decode cX10_unitsOf 15 = .ok (.iaload, 1) := by decide +kernel
theorem dX10_unitsOf_16 : decode cX10_unitsOf 16 = .ok (.ireturn, 1) := by decide +kernel
theorem dX10_isBehind_0 : decode cX10_isBehind 0 = .ok (.aload_n 0, 1) := by decide +kernel
theorem dX10_isBehind_1 : decode cX10_isBehind 1 = .ok (.getfield 9, 3) := by decide +kernel
theorem dX10_isBehind_4 : decode cX10_isBehind 4 = .ok (.bipush 46, 2) := by decide +kernel
theorem dX10_isBehind_6 : decode cX10_isBehind 6 = .ok (.iconst 2, 1) := by decide +kernel
theorem dX10_isBehind_7 : decode cX10_isBehind 7 = .ok (.bipush 6, 2) := by decide +kernel
theorem dX10_isBehind_9 : decode cX10_isBehind 9 = .ok (.iload_n 1, 1) := by decide +kernel
theorem dX10_isBehind_10 : decode cX10_isBehind 10 = .ok (.imul, 1) := by decide +kernel
theorem dX10_isBehind_11 : decode cX10_isBehind 11 = .ok (.iload_n 2, 1) := by decide +kernel
theorem dX10_isBehind_12 : decode cX10_isBehind 12 = .ok (.iadd, 1) := by decide +kernel
theorem dX10_isBehind_13 : decode cX10_isBehind 13 = .ok (.imul, 1) := by decide +kernel
theorem dX10_isBehind_14 : decode cX10_isBehind 14 = .ok (.iadd, 1) := by decide +kernel
theorem dX10_isBehind_15 : decode cX10_isBehind 15 = .ok (.iconst 1, 1) := by decide +kernel
theorem dX10_isBehind_16 : decode cX10_isBehind 16 = .ok (.iadd, 1) := by decide +kernel
theorem dX10_isBehind_17 : decode cX10_isBehind 17 = .ok (.iaload, 1) := by decide +kernel
theorem dX10_isBehind_18 : decode cX10_isBehind 18 = .ok (.iload_n 3, 1) := by decide +kernel
theorem dX10_isBehind_19 : decode cX10_isBehind 19 = .ok (.ishr, 1) := by decide +kernel
theorem dX10_isBehind_20 : decode cX10_isBehind 20 = .ok (.iconst 1, 1) := by decide +kernel
theorem dX10_isBehind_21 : decode cX10_isBehind 21 = .ok (.iand, 1) := by decide +kernel
theorem dX10_isBehind_22 : decode cX10_isBehind 22 = .ok (.iconst 1, 1) := by decide +kernel
theorem dX10_isBehind_23 : decode cX10_isBehind 23 = .ok (.if_icmp .ne 7, 3) := by decide +kernel
theorem dX10_isBehind_26 : decode cX10_isBehind 26 = .ok (.iconst 1, 1) := by decide +kernel
theorem dX10_isBehind_27 : decode cX10_isBehind 27 = .ok (.goto 4, 3) := by decide +kernel
theorem dX10_isBehind_30 : decode cX10_isBehind 30 = .ok (.iconst 0, 1) := by decide +kernel
theorem dX10_isBehind_31 : decode cX10_isBehind 31 = .ok (.ireturn, 1) := by decide +kernel
theorem dX10_many_0 : decode cX10_many 0 = .ok (.aload_n 0, 1) := by decide +kernel
theorem dX10_many_1 : decode cX10_many 1 = .ok (.getfield 9, 3) := by decide +kernel
theorem dX10_many_4 : decode cX10_many 4 = .ok (.iconst 5, 1) := by decide +kernel
theorem dX10_many_5 : decode cX10_many 5 = .ok (.iaload, 1) := by decide +kernel
theorem dX10_many_6 : decode cX10_many 6 = .ok (.aload_n 0, 1) := by decide +kernel
theorem dX10_many_7 : decode cX10_many 7 = .ok (.getfield 9, 3) := by decide +kernel
theorem dX10_many_10 : decode cX10_many 10 = .ok (.bipush 6, 2) := by decide +kernel
theorem dX10_many_12 : decode cX10_many 12 = .ok (.iaload, 1) := by decide +kernel
theorem dX10_many_13 : decode cX10_many 13 = .ok (.iadd, 1) := by decide +kernel
theorem dX10_many_14 : decode cX10_many 14 = .ok (.ireturn, 1) := by decide +kernel
theorem dX10_of_0 : decode cX10_of 0 = .ok (.aload_n 0, 1) := by decide +kernel
theorem dX10_of_1 : decode cX10_of 1 = .ok (.getfield 9, 3) := by decide +kernel
theorem dX10_of_4 : decode cX10_of 4 = .ok (.bipush 106, 2) := by decide +kernel
theorem dX10_of_6 : decode cX10_of 6 = .ok (.iconst 5, 1) := by decide +kernel
theorem dX10_of_7 : decode cX10_of 7 = .ok (.iload_n 1, 1) := by decide +kernel
theorem dX10_of_8 : decode cX10_of 8 = .ok (.imul, 1) := by decide +kernel
theorem dX10_of_9 : decode cX10_of 9 = .ok (.iadd, 1) := by decide +kernel
theorem dX10_of_10 : decode cX10_of 10 = .ok (.iload_n 2, 1) := by decide +kernel
theorem dX10_of_11 : decode cX10_of 11 = .ok (.iadd, 1) := by decide +kernel
theorem dX10_of_12 : decode cX10_of 12 = .ok (.iaload, 1) := by decide +kernel
theorem dX10_of_13 : decode cX10_of 13 = .ok (.ireturn, 1) := by decide +kernel
theorem dX10_feed_0 : decode cX10_feed 0 = .ok (.aload_n 0, 1) := by decide +kernel
theorem dX10_feed_1 : decode cX10_feed 1 = .ok (.getfield 160, 3) := by decide +kernel
theorem dX10_feed_4 : decode cX10_feed 4 = .ok (.bipush 20, 2) := by decide +kernel
theorem dX10_feed_6 : decode cX10_feed 6 = .ok (.iadd, 1) := by decide +kernel
theorem dX10_feed_7 : decode cX10_feed 7 = .ok (.sipush 1000, 3) := by decide +kernel
theorem dX10_feed_10 : decode cX10_feed 10 = .ok (.if_icmp .le 5, 3) := by decide +kernel
theorem dX10_feed_13 : decode cX10_feed 13 = .ok (.iconst (-1), 1) := by decide +kernel
theorem dX10_feed_14 : decode cX10_feed 14 = .ok (.ireturn, 1) := by decide +kernel
theorem dX10_feed_15 : decode cX10_feed 15 = .ok (.aload_n 0, 1) := by decide +kernel
theorem dX10_feed_16 : decode cX10_feed 16 = .ok (.getfield 24, 3) := by decide +kernel
theorem dX10_feed_19 : decode cX10_feed 19 = .ok (.iconst 0, 1) := by decide +kernel
theorem dX10_feed_20 : decode cX10_feed 20 = .ok (.iload_n 1, 1) := by decide +kernel
theorem dX10_feed_21 : decode cX10_feed 21 = .ok (.iastore, 1) := by decide +kernel
theorem dX10_feed_22 : decode cX10_feed 22 = .ok (.aload_n 0, 1) := by decide +kernel
theorem dX10_feed_23 : decode cX10_feed 23 = .ok (.getfield 24, 3) := by decide +kernel
theorem dX10_feed_26 : decode cX10_feed 26 = .ok (.iconst 1, 1) := by decide +kernel
theorem dX10_feed_27 : decode cX10_feed 27 = .ok (.iload_n 2, 1) := by decide +kernel
theorem dX10_feed_28 : decode cX10_feed 28 = .ok (.iastore, 1) := by decide +kernel
theorem dX10_feed_29 : decode cX10_feed 29 = .ok (.aload_n 0, 1) := by decide +kernel
theorem dX10_feed_30 : decode cX10_feed 30 = .ok (.getfield 24, 3) := by decide +kernel
theorem dX10_feed_33 : decode cX10_feed 33 = .ok (.iconst 2, 1) := by decide +kernel
theorem dX10_feed_34 : decode cX10_feed 34 = .ok (.iload_n 3, 1) := by decide +kernel
theorem dX10_feed_35 : decode cX10_feed 35 = .ok (.iastore, 1) := by decide +kernel
theorem dX10_feed_36 : decode cX10_feed 36 = .ok (.aload_n 0, 1) := by decide +kernel
theorem dX10_feed_37 : decode cX10_feed 37 = .ok (.getfield 24, 3) := by decide +kernel
theorem dX10_feed_40 : decode cX10_feed 40 = .ok (.iconst 3, 1) := by decide +kernel
theorem dX10_feed_41 : decode cX10_feed 41 = .ok (.iload 4, 2) := by decide +kernel
theorem dX10_feed_43 : decode cX10_feed 43 = .ok (.iastore, 1) := by decide +kernel
theorem dX10_feed_44 : decode cX10_feed 44 = .ok (.aload_n 0, 1) := by decide +kernel
theorem dX10_feed_45 : decode cX10_feed 45 = .ok (.getfield 24, 3) := by decide +kernel
theorem dX10_feed_48 : decode cX10_feed 48 = .ok (.iconst 4, 1) := by decide +kernel
theorem dX10_feed_49 : decode cX10_feed 49 = .ok (.iload 5, 2) := by decide +kernel
theorem dX10_feed_51 : decode cX10_feed 51 = .ok (.iastore, 1) := by decide +kernel
theorem dX10_feed_52 : decode cX10_feed 52 = .ok (.iconst 0, 1) := by decide +kernel
theorem dX10_feed_53 : decode cX10_feed 53 = .ok (.istore 6, 2) := by decide +kernel
theorem dX10_feed_55 : decode cX10_feed 55 = .ok (.iload 6, 2) := by decide +kernel
theorem dX10_feed_57 : decode cX10_feed 57 = .ok (.bipush 20, 2) := by decide +kernel
theorem dX10_feed_59 : decode cX10_feed 59 = .ok (.if_icmp .ge 42, 3) := by decide +kernel
theorem dX10_feed_62 : decode cX10_feed 62 = .ok (.aload_n 0, 1) := by decide +kernel
theorem dX10_feed_63 : decode cX10_feed 63 = .ok (.getfield 20, 3) := by decide +kernel
theorem dX10_feed_66 : decode cX10_feed 66 = .ok (.aload_n 0, 1) := by decide +kernel
theorem dX10_feed_67 : decode cX10_feed 67 = .ok (.getfield 160, 3) := by decide +kernel
theorem dX10_feed_70 : decode cX10_feed 70 = .ok (.iload 6, 2) := by decide +kernel
theorem dX10_feed_72 : decode cX10_feed 72 = .ok (.iadd, 1) := by decide +kernel
theorem dX10_feed_73 : decode cX10_feed 73 = .ok (.aload_n 0, 1) := by decide +kernel
theorem dX10_feed_74 : decode cX10_feed 74 = .ok (.getfield 24, 3) := by decide +kernel
theorem dX10_feed_77 : decode cX10_feed 77 = .ok (.iload 6, 2) := by decide +kernel
theorem dX10_feed_79 : decode cX10_feed 79 = .ok (.iconst 4, 1) := by decide +kernel
theorem dX10_feed_80 : decode cX10_feed 80 = .ok (.idiv, 1) := by decide +kernel
theorem dX10_feed_81 : decode cX10_feed 81 = .ok (.iaload, 1) := by decide +kernel
theorem dX10_feed_82 : decode cX10_feed 82 = .ok (.bipush 24, 2) := by decide +kernel
theorem dX10_feed_84 : decode cX10_feed 84 = .ok (.bipush 8, 2) := by decide +kernel
theorem dX10_feed_86 : decode cX10_feed 86 = .ok (.iload 6, 2) := by decide +kernel
theorem dX10_feed_88 : decode cX10_feed 88 = .ok (.iconst 4, 1) := by decide +kernel
theorem dX10_feed_89 : decode cX10_feed 89 = .ok (.irem, 1) := by decide +kernel
theorem dX10_feed_90 : decode cX10_feed 90 = .ok (.imul, 1) := by decide +kernel
theorem dX10_feed_91 : decode cX10_feed 91 = .ok (.isub, 1) := by decide +kernel
theorem dX10_feed_92 : decode cX10_feed 92 = .ok (.ishr, 1) := by decide +kernel
theorem dX10_feed_93 : decode cX10_feed 93 = .ok (.i2b, 1) := by decide +kernel
theorem dX10_feed_94 : decode cX10_feed 94 = .ok (.bastore, 1) := by decide +kernel
theorem dX10_feed_95 : decode cX10_feed 95 = .ok (.iinc 6 1, 3) := by decide +kernel
theorem dX10_feed_98 : decode cX10_feed 98 = .ok (.goto (-43), 3) := by decide +kernel
theorem dX10_feed_101 : decode cX10_feed 101 = .ok (.aload_n 0, 1) := by decide +kernel
theorem dX10_feed_102 : decode cX10_feed 102 = .ok (.dup, 1) := by decide +kernel
theorem dX10_feed_103 : decode cX10_feed 103 = .ok (.getfield 160, 3) := by decide +kernel
theorem dX10_feed_106 : decode cX10_feed 106 = .ok (.bipush 20, 2) := by decide +kernel
theorem dX10_feed_108 : decode cX10_feed 108 = .ok (.iadd, 1) := by decide +kernel
theorem dX10_feed_109 : decode cX10_feed 109 = .ok (.putfield 160, 3) := by decide +kernel
theorem dX10_feed_112 : decode cX10_feed 112 = .ok (.aload_n 0, 1) := by decide +kernel
theorem dX10_feed_113 : decode cX10_feed 113 = .ok (.getfield 160, 3) := by decide +kernel
theorem dX10_feed_116 : decode cX10_feed 116 = .ok (.ireturn, 1) := by decide +kernel
theorem dX10_end_0 : decode cX10_end 0 = .ok (.iload_n 1, 1) := by decide +kernel
theorem dX10_end_1 : decode cX10_end 1 = .ok (.i2l, 1) := by decide +kernel
theorem dX10_end_2 : decode cX10_end 2 = .ok (.lconst 0, 1) := by decide +kernel
theorem dX10_end_3 : decode cX10_end 3 = .ok (.aload_n 0, 1) := by decide +kernel
theorem dX10_end_4 : decode cX10_end 4 = .ok (.getfield 160, 3) := by decide +kernel
theorem dX10_end_7 : decode cX10_end 7 = .ok (.i2l, 1) := by decide +kernel
theorem dX10_end_8 : decode cX10_end 8 = .ok (.invokestatic 152, 3) := by decide +kernel
theorem dX10_end_11 : decode cX10_end 11 = .ok (.ifCond .ne 5, 3) := by decide +kernel
theorem dX10_end_14 : decode cX10_end 14 = .ok (.iconst (-1), 1) := by decide +kernel
theorem dX10_end_15 : decode cX10_end 15 = .ok (.ireturn, 1) := by decide +kernel
theorem dX10_end_16 : decode cX10_end 16 = .ok (.aload_n 0, 1) := by decide +kernel
theorem dX10_end_17 : decode cX10_end 17 = .ok (.iload_n 1, 1) := by decide +kernel
theorem dX10_end_18 : decode cX10_end 18 = .ok (.putfield 160, 3) := by decide +kernel
theorem dX10_end_21 : decode cX10_end 21 = .ok (.iload_n 1, 1) := by decide +kernel
theorem dX10_end_22 : decode cX10_end 22 = .ok (.ireturn, 1) := by decide +kernel
theorem dX10_see_0 : decode cX10_see 0 = .ok (.iload_n 1, 1) := by decide +kernel
theorem dX10_see_1 : decode cX10_see 1 = .ok (.aload_n 0, 1) := by decide +kernel
theorem dX10_see_2 : decode cX10_see 2 = .ok (.getfield 163, 3) := by decide +kernel
theorem dX10_see_5 : decode cX10_see 5 = .ok (.if_icmp .ge 16, 3) := by decide +kernel
theorem dX10_see_8 : decode cX10_see 8 = .ok (.aload_n 0, 1) := by decide +kernel
theorem dX10_see_9 : decode cX10_see 9 = .ok (.getfield 20, 3) := by decide +kernel
theorem dX10_see_12 : decode cX10_see 12 = .ok (.iload_n 1, 1) := by decide +kernel
theorem dX10_see_13 : decode cX10_see 13 = .ok (.baload, 1) := by decide +kernel
theorem dX10_see_14 : decode cX10_see 14 = .ok (.sipush 255, 3) := by decide +kernel
theorem dX10_see_17 : decode cX10_see 17 = .ok (.iand, 1) := by decide +kernel
theorem dX10_see_18 : decode cX10_see 18 = .ok (.goto 4, 3) := by decide +kernel
theorem dX10_see_21 : decode cX10_see 21 = .ok (.iconst (-1), 1) := by decide +kernel
theorem dX10_see_22 : decode cX10_see 22 = .ok (.ireturn, 1) := by decide +kernel
theorem dX10_advance_0 : decode cX10_advance 0 = .ok (.aload_n 0, 1) := by decide +kernel
theorem dX10_advance_1 : decode cX10_advance 1 = .ok (.aload_n 0, 1) := by decide +kernel
theorem dX10_advance_2 : decode cX10_advance 2 = .ok (.getfield 166, 3) := by decide +kernel
theorem dX10_advance_5 : decode cX10_advance 5 = .ok (.invokevirtual 169, 3) := by decide +kernel
theorem dX10_advance_8 : decode cX10_advance 8 = .ok (.bipush 32, 2) := by decide +kernel
theorem dX10_advance_10 : decode cX10_advance 10 = .ok (.if_icmp .eq 16, 3) := by decide +kernel
theorem dX10_advance_13 : decode cX10_advance 13 = .ok (.aload_n 0, 1) := by decide +kernel
theorem dX10_advance_14 : decode cX10_advance 14 = .ok (.aload_n 0, 1) := by decide +kernel
theorem dX10_advance_15 : decode cX10_advance 15 = .ok (.getfield 166, 3) := by decide +kernel
theorem dX10_advance_18 : decode cX10_advance 18 = .ok (.invokevirtual 169, 3) := by decide +kernel
theorem dX10_advance_21 : decode cX10_advance 21 = .ok (.bipush 10, 2) := by decide +kernel
theorem dX10_advance_23 : decode cX10_advance 23 = .ok (.if_icmp .ne 16, 3) := by decide +kernel
theorem dX10_advance_26 : decode cX10_advance 26 = .ok (.aload_n 0, 1) := by decide +kernel
theorem dX10_advance_27 : decode cX10_advance 27 = .ok (.dup, 1) := by decide +kernel
theorem dX10_advance_28 : decode cX10_advance 28 = .ok (.getfield 166, 3) := by decide +kernel
theorem dX10_advance_31 : decode cX10_advance 31 = .ok (.iconst 1, 1) := by decide +kernel
theorem dX10_advance_32 : decode cX10_advance 32 = .ok (.iadd, 1) := by decide +kernel
theorem dX10_advance_33 : decode cX10_advance 33 = .ok (.putfield 166, 3) := by decide +kernel
theorem dX10_advance_36 : decode cX10_advance 36 = .ok (.goto (-36), 3) := by decide +kernel
theorem dX10_advance_39 : decode cX10_advance 39 = .ok (.aload_n 0, 1) := by decide +kernel
theorem dX10_advance_40 : decode cX10_advance 40 = .ok (.aload_n 0, 1) := by decide +kernel
theorem dX10_advance_41 : decode cX10_advance 41 = .ok (.getfield 166, 3) := by decide +kernel
theorem dX10_advance_44 : decode cX10_advance 44 = .ok (.putfield 173, 3) := by decide +kernel
theorem dX10_advance_47 : decode cX10_advance 47 = .ok (.aload_n 0, 1) := by decide +kernel
theorem dX10_advance_48 : decode cX10_advance 48 = .ok (.aload_n 0, 1) := by decide +kernel
theorem dX10_advance_49 : decode cX10_advance 49 = .ok (.getfield 166, 3) := by decide +kernel
theorem dX10_advance_52 : decode cX10_advance 52 = .ok (.invokevirtual 169, 3) := by decide +kernel
theorem dX10_advance_55 : decode cX10_advance 55 = .ok (.istore_n 1, 1) := by decide +kernel
theorem dX10_advance_56 : decode cX10_advance 56 = .ok (.iload_n 1, 1) := by decide +kernel
theorem dX10_advance_57 : decode cX10_advance 57 = .ok (.iconst (-1), 1) := by decide +kernel
theorem dX10_advance_58 : decode cX10_advance 58 = .ok (.if_icmp .ne 11, 3) := by decide +kernel
theorem dX10_advance_61 : decode cX10_advance 61 = .ok (.aload_n 0, 1) := by decide +kernel
theorem dX10_advance_62 : decode cX10_advance 62 = .ok (.iconst 0, 1) := by decide +kernel
theorem dX10_advance_63 : decode cX10_advance 63 = .ok (.putfield 176, 3) := by decide +kernel
theorem dX10_advance_66 : decode cX10_advance 66 = .ok (.goto 173, 3) := by decide +kernel
theorem dX10_advance_69 : decode cX10_advance 69 = .ok (.iload_n 1, 1) := by decide +kernel
theorem dX10_advance_70 : decode cX10_advance 70 = .ok (.i2l, 1) := by decide +kernel
theorem dX10_advance_71 : decode cX10_advance 71 = .ok (.ldc2_w 179, 3) := by decide +kernel
theorem dX10_advance_74 : decode cX10_advance 74 = .ok (.ldc2_w 181, 3) := by decide +kernel
theorem dX10_advance_77 : decode cX10_advance 77 = .ok (.invokestatic 152, 3) := by decide +kernel
theorem dX10_advance_80 : decode cX10_advance 80 = .ok (.ifCond .eq 45, 3) := by decide +kernel
theorem dX10_advance_83 : decode cX10_advance 83 = .ok (.aload_n 0, 1) := by decide +kernel
theorem dX10_advance_84 : decode cX10_advance 84 = .ok (.aload_n 0, 1) := by decide +kernel
theorem dX10_advance_85 : decode cX10_advance 85 = .ok (.getfield 166, 3) := by decide +kernel
theorem dX10_advance_88 : decode cX10_advance 88 = .ok (.invokevirtual 169, 3) := by decide +kernel
theorem dX10_advance_91 : decode cX10_advance 91 = .ok (.i2l, 1) := by decide +kernel
theorem dX10_advance_92 : decode cX10_advance 92 = .ok (.ldc2_w 179, 3) := by decide +kernel
theorem dX10_advance_95 : decode cX10_advance 95 = .ok (.ldc2_w 181, 3) := by decide +kernel
theorem dX10_advance_98 : decode cX10_advance 98 = .ok (.invokestatic 152, 3) := by decide +kernel
theorem dX10_advance_101 : decode cX10_advance 101 = .ok (.ifCond .eq 16, 3) := by decide +kernel
theorem dX10_advance_104 : decode cX10_advance 104 = .ok (.aload_n 0, 1) := by decide +kernel
theorem dX10_advance_105 : decode cX10_advance 105 = .ok (.dup, 1) := by decide +kernel
theorem dX10_advance_106 : decode cX10_advance 106 = .ok (.getfield 166, 3) := by decide +kernel
theorem dX10_advance_109 : decode cX10_advance 109 = .ok (.iconst 1, 1) := by decide +kernel
theorem dX10_advance_110 : decode cX10_advance 110 = .ok (.iadd, 1) := by decide +kernel
theorem dX10_advance_111 : decode cX10_advance 111 = .ok (.putfield 166, 3) := by decide +kernel
theorem dX10_advance_114 : decode cX10_advance 114 = .ok (.goto (-31), 3) := by decide +kernel
theorem dX10_advance_117 : decode cX10_advance 117 = .ok (.aload_n 0, 1) := by decide +kernel
theorem dX10_advance_118 : decode cX10_advance 118 = .ok (.iconst 1, 1) := by decide +kernel
theorem dX10_advance_119 : decode cX10_advance 119 = .ok (.putfield 176, 3) := by decide +kernel
theorem dX10_advance_122 : decode cX10_advance 122 = .ok (.goto 117, 3) := by decide +kernel
theorem dX10_advance_125 : decode cX10_advance 125 = .ok (.iload_n 1, 1) := by decide +kernel
theorem dX10_advance_126 : decode cX10_advance 126 = .ok (.i2l, 1) := by decide +kernel
theorem dX10_advance_127 : decode cX10_advance 127 = .ok (.ldc2_w 183, 3) := by decide +kernel
theorem dX10_advance_130 : decode cX10_advance 130 = .ok (.ldc2_w 185, 3) := by decide +kernel
theorem dX10_advance_133 : decode cX10_advance 133 = .ok (.invokestatic 152, 3) := by decide +kernel
theorem dX10_advance_136 : decode cX10_advance 136 = .ok (.ifCond .eq 78, 3) := by decide +kernel
theorem dX10_advance_139 : decode cX10_advance 139 = .ok (.aload_n 0, 1) := by decide +kernel
theorem dX10_advance_140 : decode cX10_advance 140 = .ok (.iconst 0, 1) := by decide +kernel
theorem dX10_advance_141 : decode cX10_advance 141 = .ok (.putfield 187, 3) := by decide +kernel
theorem dX10_advance_144 : decode cX10_advance 144 = .ok (.aload_n 0, 1) := by decide +kernel
theorem dX10_advance_145 : decode cX10_advance 145 = .ok (.aload_n 0, 1) := by decide +kernel
theorem dX10_advance_146 : decode cX10_advance 146 = .ok (.getfield 166, 3) := by decide +kernel
theorem dX10_advance_149 : decode cX10_advance 149 = .ok (.invokevirtual 169, 3) := by decide +kernel
theorem dX10_advance_152 : decode cX10_advance 152 = .ok (.i2l, 1) := by decide +kernel
theorem dX10_advance_153 : decode cX10_advance 153 = .ok (.ldc2_w 183, 3) := by decide +kernel
theorem dX10_advance_156 : decode cX10_advance 156 = .ok (.ldc2_w 185, 3) := by decide +kernel
theorem dX10_advance_159 : decode cX10_advance 159 = .ok (.invokestatic 152, 3) := by decide +kernel
theorem dX10_advance_162 : decode cX10_advance 162 = .ok (.ifCond .eq 44, 3) := by decide +kernel
theorem dX10_advance_165 : decode cX10_advance 165 = .ok (.aload_n 0, 1) := by decide +kernel
theorem dX10_advance_166 : decode cX10_advance 166 = .ok (.ldc 190, 2) := by decide +kernel
theorem dX10_advance_168 : decode cX10_advance 168 = .ok (.bipush 10, 2) := by decide +kernel
theorem dX10_advance_170 : decode cX10_advance 170 = .ok (.aload_n 0, 1) := by decide +kernel
theorem dX10_advance_171 : decode cX10_advance 171 = .ok (.getfield 187, 3) := by decide +kernel
theorem dX10_advance_174 : decode cX10_advance 174 = .ok (.imul, 1) := by decide +kernel
theorem dX10_advance_175 : decode cX10_advance 175 = .ok (.aload_n 0, 1) := by decide +kernel
theorem dX10_advance_176 : decode cX10_advance 176 = .ok (.aload_n 0, 1) := by decide +kernel
theorem dX10_advance_177 : decode cX10_advance 177 = .ok (.getfield 166, 3) := by decide +kernel
theorem dX10_advance_180 : decode cX10_advance 180 = .ok (.invokevirtual 169, 3) := by decide +kernel
theorem dX10_advance_183 : decode cX10_advance 183 = .ok (.iadd, 1) := by decide +kernel
theorem dX10_advance_184 : decode cX10_advance 184 = .ok (.bipush 48, 2) := by decide +kernel
theorem dX10_advance_186 : decode cX10_advance 186 = .ok (.isub, 1) := by decide +kernel
theorem dX10_advance_187 : decode cX10_advance 187 = .ok (.invokestatic 191, 3) := by decide +kernel
theorem dX10_advance_190 : decode cX10_advance 190 = .ok (.putfield 187, 3) := by decide +kernel
theorem dX10_advance_193 : decode cX10_advance 193 = .ok (.aload_n 0, 1) := by decide +kernel
theorem dX10_advance_194 : decode cX10_advance 194 = .ok (.dup, 1) := by decide +kernel
theorem dX10_advance_195 : decode cX10_advance 195 = .ok (.getfield 166, 3) := by decide +kernel
theorem dX10_advance_198 : decode cX10_advance 198 = .ok (.iconst 1, 1) := by decide +kernel
theorem dX10_advance_199 : decode cX10_advance 199 = .ok (.iadd, 1) := by decide +kernel
theorem dX10_advance_200 : decode cX10_advance 200 = .ok (.putfield 166, 3) := by decide +kernel
theorem dX10_advance_203 : decode cX10_advance 203 = .ok (.goto (-59), 3) := by decide +kernel
theorem dX10_advance_206 : decode cX10_advance 206 = .ok (.aload_n 0, 1) := by decide +kernel
theorem dX10_advance_207 : decode cX10_advance 207 = .ok (.iconst 2, 1) := by decide +kernel
theorem dX10_advance_208 : decode cX10_advance 208 = .ok (.putfield 176, 3) := by decide +kernel
theorem dX10_advance_211 : decode cX10_advance 211 = .ok (.goto 28, 3) := by decide +kernel
theorem dX10_advance_214 : decode cX10_advance 214 = .ok (.aload_n 0, 1) := by decide +kernel
theorem dX10_advance_215 : decode cX10_advance 215 = .ok (.iload_n 1, 1) := by decide +kernel
theorem dX10_advance_216 : decode cX10_advance 216 = .ok (.bipush 59, 2) := by decide +kernel
theorem dX10_advance_218 : decode cX10_advance 218 = .ok (.if_icmp .ne 7, 3) := by decide +kernel
theorem dX10_advance_221 : decode cX10_advance 221 = .ok (.iconst 3, 1) := by decide +kernel
theorem dX10_advance_222 : decode cX10_advance 222 = .ok (.goto 4, 3) := by decide +kernel
theorem dX10_advance_225 : decode cX10_advance 225 = .ok (.iconst 4, 1) := by decide +kernel
theorem dX10_advance_226 : decode cX10_advance 226 = .ok (.putfield 176, 3) := by decide +kernel
theorem dX10_advance_229 : decode cX10_advance 229 = .ok (.aload_n 0, 1) := by decide +kernel
theorem dX10_advance_230 : decode cX10_advance 230 = .ok (.dup, 1) := by decide +kernel
theorem dX10_advance_231 : decode cX10_advance 231 = .ok (.getfield 166, 3) := by decide +kernel
theorem dX10_advance_234 : decode cX10_advance 234 = .ok (.iconst 1, 1) := by decide +kernel
theorem dX10_advance_235 : decode cX10_advance 235 = .ok (.iadd, 1) := by decide +kernel
theorem dX10_advance_236 : decode cX10_advance 236 = .ok (.putfield 166, 3) := by decide +kernel
theorem dX10_advance_239 : decode cX10_advance 239 = .ok (.return_, 1) := by decide +kernel
theorem dX10_good_0 : decode cX10_good 0 = .ok (.aload_n 0, 1) := by decide +kernel
theorem dX10_good_1 : decode cX10_good 1 = .ok (.getfield 196, 3) := by decide +kernel
theorem dX10_good_4 : decode cX10_good 4 = .ok (.ifCond .ne 7, 3) := by decide +kernel
theorem dX10_good_7 : decode cX10_good 7 = .ok (.iconst 1, 1) := by decide +kernel
theorem dX10_good_8 : decode cX10_good 8 = .ok (.goto 4, 3) := by decide +kernel
theorem dX10_good_11 : decode cX10_good 11 = .ok (.iconst 0, 1) := by decide +kernel
theorem dX10_good_12 : decode cX10_good 12 = .ok (.ireturn, 1) := by decide +kernel
theorem dX10_errs_0 : decode cX10_errs 0 = .ok (.aload_n 0, 1) := by decide +kernel
theorem dX10_errs_1 : decode cX10_errs 1 = .ok (.invokevirtual 199, 3) := by decide +kernel
theorem dX10_errs_4 : decode cX10_errs 4 = .ok (.ifCond .ne 4, 3) := by decide +kernel
theorem dX10_errs_7 : decode cX10_errs 7 = .ok (.return_, 1) := by decide +kernel
theorem dX10_errs_8 : decode cX10_errs 8 = .ok (.aload_n 0, 1) := by decide +kernel
theorem dX10_errs_9 : decode cX10_errs 9 = .ok (.iload_n 1, 1) := by decide +kernel
theorem dX10_errs_10 : decode cX10_errs 10 = .ok (.putfield 196, 3) := by decide +kernel
theorem dX10_errs_13 : decode cX10_errs 13 = .ok (.aload_n 0, 1) := by decide +kernel
theorem dX10_errs_14 : decode cX10_errs 14 = .ok (.aload_n 0, 1) := by decide +kernel
theorem dX10_errs_15 : decode cX10_errs 15 = .ok (.getfield 173, 3) := by decide +kernel
theorem dX10_errs_18 : decode cX10_errs 18 = .ok (.putfield 27, 3) := by decide +kernel
theorem dX10_errs_21 : decode cX10_errs 21 = .ok (.return_, 1) := by decide +kernel
theorem dX10_is_0 : decode cX10_is 0 = .ok (.aload_n 0, 1) := by decide +kernel
theorem dX10_is_1 : decode cX10_is 1 = .ok (.invokevirtual 199, 3) := by decide +kernel
theorem dX10_is_4 : decode cX10_is 4 = .ok (.ifCond .eq 31, 3) := by decide +kernel
theorem dX10_is_7 : decode cX10_is 7 = .ok (.aload_n 0, 1) := by decide +kernel
theorem dX10_is_8 : decode cX10_is 8 = .ok (.getfield 176, 3) := by decide +kernel
theorem dX10_is_11 : decode cX10_is 11 = .ok (.iconst 1, 1) := by decide +kernel
theorem dX10_is_12 : decode cX10_is 12 = .ok (.if_icmp .ne 23, 3) := by decide +kernel
theorem dX10_is_15 : decode cX10_is 15 = .ok (.aload_n 0, 1) := by decide +kernel
theorem dX10_is_16 : decode cX10_is 16 = .ok (.getfield 166, 3) := by decide +kernel
theorem dX10_is_19 : decode cX10_is 19 = .ok (.aload_n 0, 1) := by decide +kernel
theorem dX10_is_20 : decode cX10_is 20 = .ok (.getfield 173, 3) := by decide +kernel
theorem dX10_is_23 : decode cX10_is 23 = .ok (.isub, 1) := by decide +kernel
theorem dX10_is_24 : decode cX10_is 24 = .ok (.aload_n 1, 1) := by decide +kernel
theorem dX10_is_25 : decode cX10_is 25 = .ok (.invokevirtual 203, 3) := by decide +kernel
theorem dX10_is_28 : decode cX10_is 28 = .ok (.if_icmp .ne 7, 3) := by decide +kernel
theorem dX10_is_31 : decode cX10_is 31 = .ok (.iconst 1, 1) := by decide +kernel
theorem dX10_is_32 : decode cX10_is 32 = .ok (.goto 4, 3) := by decide +kernel
theorem dX10_is_35 : decode cX10_is 35 = .ok (.iconst 0, 1) := by decide +kernel
theorem dX10_is_36 : decode cX10_is 36 = .ok (.istore_n 2, 1) := by decide +kernel
theorem dX10_is_37 : decode cX10_is 37 = .ok (.iconst 0, 1) := by decide +kernel
theorem dX10_is_38 : decode cX10_is 38 = .ok (.istore_n 3, 1) := by decide +kernel
theorem dX10_is_39 : decode cX10_is 39 = .ok (.iload_n 3, 1) := by decide +kernel
theorem dX10_is_40 : decode cX10_is 40 = .ok (.aload_n 1, 1) := by decide +kernel
theorem dX10_is_41 : decode cX10_is 41 = .ok (.invokevirtual 203, 3) := by decide +kernel
theorem dX10_is_44 : decode cX10_is 44 = .ok (.if_icmp .ge 38, 3) := by decide +kernel
theorem dX10_is_47 : decode cX10_is 47 = .ok (.iload_n 2, 1) := by decide +kernel
theorem dX10_is_48 : decode cX10_is 48 = .ok (.ifCond .eq 34, 3) := by decide +kernel
theorem dX10_is_51 : decode cX10_is 51 = .ok (.aload_n 0, 1) := by decide +kernel
theorem dX10_is_52 : decode cX10_is 52 = .ok (.getfield 20, 3) := by decide +kernel
theorem dX10_is_55 : decode cX10_is 55 = .ok (.aload_n 0, 1) := by decide +kernel
theorem dX10_is_56 : decode cX10_is 56 = .ok (.getfield 173, 3) := by decide +kernel
theorem dX10_is_59 : decode cX10_is 59 = .ok (.iload_n 3, 1) := by decide +kernel
theorem dX10_is_60 : decode cX10_is 60 = .ok (.iadd, 1) := by decide +kernel
theorem dX10_is_61 : decode cX10_is 61 = .ok (.baload, 1) := by decide +kernel
theorem dX10_is_62 : decode cX10_is 62 = .ok (.aload_n 1, 1) := by decide +kernel
theorem dX10_is_63 : decode cX10_is 63 = .ok (.iload_n 3, 1) := by decide +kernel
theorem dX10_is_64 : decode cX10_is 64 = .ok (.invokevirtual 209, 3) := by decide +kernel
theorem dX10_is_67 : decode cX10_is 67 = .ok (.if_icmp .ne 7, 3) := by decide +kernel
theorem dX10_is_70 : decode cX10_is 70 = .ok (.iconst 1, 1) := by decide +kernel
theorem dX10_is_71 : decode cX10_is 71 = .ok (.goto 4, 3) := by decide +kernel
theorem dX10_is_74 : decode cX10_is 74 = .ok (.iconst 0, 1) := by decide +kernel
theorem dX10_is_75 : decode cX10_is 75 = .ok (.istore_n 2, 1) := by decide +kernel
theorem dX10_is_76 : decode cX10_is 76 = .ok (.iinc 3 1, 3) := by decide +kernel
theorem dX10_is_79 : decode cX10_is 79 = .ok (.goto (-40), 3) := by decide +kernel
theorem dX10_is_82 : decode cX10_is 82 = .ok (.iload_n 2, 1) := by decide +kernel
theorem dX10_is_83 : decode cX10_is 83 = .ok (.ireturn, 1) := by decide +kernel
theorem dX10_expects_0 : decode cX10_expects 0 = .ok (.aload_n 0, 1) := by decide +kernel
theorem dX10_expects_1 : decode cX10_expects 1 = .ok (.aload_n 1, 1) := by decide +kernel
theorem dX10_expects_2 : decode cX10_expects 2 = .ok (.invokevirtual 213, 3) := by decide +kernel
theorem dX10_expects_5 : decode cX10_expects 5 = .ok (.ifCond .eq 10, 3) := by decide +kernel
theorem dX10_expects_8 : decode cX10_expects 8 = .ok (.aload_n 0, 1) := by decide +kernel
theorem dX10_expects_9 : decode cX10_expects 9 = .ok (.invokevirtual 217, 3) := by decide +kernel
theorem dX10_expects_12 : decode cX10_expects 12 = .ok (.goto 8, 3) := by decide +kernel
theorem dX10_expects_15 : decode cX10_expects 15 = .ok (.aload_n 0, 1) := by decide +kernel
theorem dX10_expects_16 : decode cX10_expects 16 = .ok (.iconst 1, 1) := by decide +kernel
theorem dX10_expects_17 : decode cX10_expects 17 = .ok (.invokevirtual 220, 3) := by decide +kernel
theorem dX10_expects_20 : decode cX10_expects 20 = .ok (.return_, 1) := by decide +kernel
theorem dX10_takes_0 : decode cX10_takes 0 = .ok (.aload_n 0, 1) := by decide +kernel
theorem dX10_takes_1 : decode cX10_takes 1 = .ok (.invokevirtual 199, 3) := by decide +kernel
theorem dX10_takes_4 : decode cX10_takes 4 = .ok (.ifCond .eq 16, 3) := by decide +kernel
theorem dX10_takes_7 : decode cX10_takes 7 = .ok (.aload_n 0, 1) := by decide +kernel
theorem dX10_takes_8 : decode cX10_takes 8 = .ok (.getfield 176, 3) := by decide +kernel
theorem dX10_takes_11 : decode cX10_takes 11 = .ok (.iconst 2, 1) := by decide +kernel
theorem dX10_takes_12 : decode cX10_takes 12 = .ok (.if_icmp .eq 8, 3) := by decide +kernel
theorem dX10_takes_15 : decode cX10_takes 15 = .ok (.aload_n 0, 1) := by decide +kernel
theorem dX10_takes_16 : decode cX10_takes 16 = .ok (.iconst 1, 1) := by decide +kernel
theorem dX10_takes_17 : decode cX10_takes 17 = .ok (.invokevirtual 220, 3) := by decide +kernel
theorem dX10_takes_20 : decode cX10_takes 20 = .ok (.aload_n 0, 1) := by decide +kernel
theorem dX10_takes_21 : decode cX10_takes 21 = .ok (.invokevirtual 199, 3) := by decide +kernel
theorem dX10_takes_24 : decode cX10_takes 24 = .ok (.ifCond .eq 23, 3) := by decide +kernel
theorem dX10_takes_27 : decode cX10_takes 27 = .ok (.aload_n 0, 1) := by decide +kernel
theorem dX10_takes_28 : decode cX10_takes 28 = .ok (.getfield 187, 3) := by decide +kernel
theorem dX10_takes_31 : decode cX10_takes 31 = .ok (.i2l, 1) := by decide +kernel
theorem dX10_takes_32 : decode cX10_takes 32 = .ok (.iload_n 1, 1) := by decide +kernel
theorem dX10_takes_33 : decode cX10_takes 33 = .ok (.i2l, 1) := by decide +kernel
theorem dX10_takes_34 : decode cX10_takes 34 = .ok (.iload_n 2, 1) := by decide +kernel
theorem dX10_takes_35 : decode cX10_takes 35 = .ok (.i2l, 1) := by decide +kernel
theorem dX10_takes_36 : decode cX10_takes 36 = .ok (.invokestatic 152, 3) := by decide +kernel
theorem dX10_takes_39 : decode cX10_takes 39 = .ok (.ifCond .ne 8, 3) := by decide +kernel
theorem dX10_takes_42 : decode cX10_takes 42 = .ok (.aload_n 0, 1) := by decide +kernel
theorem dX10_takes_43 : decode cX10_takes 43 = .ok (.iconst 2, 1) := by decide +kernel
theorem dX10_takes_44 : decode cX10_takes 44 = .ok (.invokevirtual 220, 3) := by decide +kernel
theorem dX10_takes_47 : decode cX10_takes 47 = .ok (.aload_n 0, 1) := by decide +kernel
theorem dX10_takes_48 : decode cX10_takes 48 = .ok (.invokevirtual 199, 3) := by decide +kernel
theorem dX10_takes_51 : decode cX10_takes 51 = .ok (.ifCond .ne 5, 3) := by decide +kernel
theorem dX10_takes_54 : decode cX10_takes 54 = .ok (.iconst 0, 1) := by decide +kernel
theorem dX10_takes_55 : decode cX10_takes 55 = .ok (.ireturn, 1) := by decide +kernel
theorem dX10_takes_56 : decode cX10_takes 56 = .ok (.aload_n 0, 1) := by decide +kernel
theorem dX10_takes_57 : decode cX10_takes 57 = .ok (.getfield 187, 3) := by decide +kernel
theorem dX10_takes_60 : decode cX10_takes 60 = .ok (.istore_n 3, 1) := by decide +kernel
theorem dX10_takes_61 : decode cX10_takes 61 = .ok (.aload_n 0, 1) := by decide +kernel
theorem dX10_takes_62 : decode cX10_takes 62 = .ok (.invokevirtual 217, 3) := by decide +kernel
theorem dX10_takes_65 : decode cX10_takes 65 = .ok (.iload_n 3, 1) := by decide +kernel
theorem dX10_takes_66 : decode cX10_takes 66 = .ok (.ireturn, 1) := by decide +kernel
theorem dX10_toldBy_0 : decode cX10_toldBy 0 = .ok (.aload_n 0, 1) := by decide +kernel
theorem dX10_toldBy_1 : decode cX10_toldBy 1 = .ok (.aload_n 1, 1) := by decide +kernel
theorem dX10_toldBy_2 : decode cX10_toldBy 2 = .ok (.invokevirtual 224, 3) := by decide +kernel
theorem dX10_toldBy_5 : decode cX10_toldBy 5 = .ok (.aload_n 0, 1) := by decide +kernel
theorem dX10_toldBy_6 : decode cX10_toldBy 6 = .ok (.iload_n 2, 1) := by decide +kernel
theorem dX10_toldBy_7 : decode cX10_toldBy 7 = .ok (.iload_n 3, 1) := by decide +kernel
theorem dX10_toldBy_8 : decode cX10_toldBy 8 = .ok (.invokevirtual 228, 3) := by decide +kernel
theorem dX10_toldBy_11 : decode cX10_toldBy 11 = .ok (.ireturn, 1) := by decide +kernel
theorem dX10_fault_0 : decode cX10_fault 0 = .ok (.iload_n 1, 1) := by decide +kernel
theorem dX10_fault_1 : decode cX10_fault 1 = .ok (.ifCond .ne 10, 3) := by decide +kernel
theorem dX10_fault_4 : decode cX10_fault 4 = .ok (.aload_n 0, 1) := by decide +kernel
theorem dX10_fault_5 : decode cX10_fault 5 = .ok (.getfield 196, 3) := by decide +kernel
theorem dX10_fault_8 : decode cX10_fault 8 = .ok (.goto 16, 3) := by decide +kernel
theorem dX10_fault_11 : decode cX10_fault 11 = .ok (.iload_n 1, 1) := by decide +kernel
theorem dX10_fault_12 : decode cX10_fault 12 = .ok (.iconst 1, 1) := by decide +kernel
theorem dX10_fault_13 : decode cX10_fault 13 = .ok (.if_icmp .ne 10, 3) := by decide +kernel
theorem dX10_fault_16 : decode cX10_fault 16 = .ok (.aload_n 0, 1) := by decide +kernel
theorem dX10_fault_17 : decode cX10_fault 17 = .ok (.getfield 27, 3) := by decide +kernel
theorem dX10_fault_20 : decode cX10_fault 20 = .ok (.goto 4, 3) := by decide +kernel
theorem dX10_fault_23 : decode cX10_fault 23 = .ok (.iconst (-1), 1) := by decide +kernel
theorem dX10_fault_24 : decode cX10_fault 24 = .ok (.ireturn, 1) := by decide +kernel
theorem dX10_readBoard_0 : decode cX10_readBoard 0 = .ok (.aload_n 0, 1) := by decide +kernel
theorem dX10_readBoard_1 : decode cX10_readBoard 1 = .ok (.ldc 231, 2) := by decide +kernel
theorem dX10_readBoard_3 : decode cX10_readBoard 3 = .ok (.invokevirtual 224, 3) := by decide +kernel
theorem dX10_readBoard_6 : decode cX10_readBoard 6 = .ok (.aload_n 0, 1) := by decide +kernel
theorem dX10_readBoard_7 : decode cX10_readBoard 7 = .ok (.getfield 31, 3) := by decide +kernel
theorem dX10_readBoard_10 : decode cX10_readBoard 10 = .ok (.iconst 0, 1) := by decide +kernel
theorem dX10_readBoard_11 : decode cX10_readBoard 11 = .ok (.aload_n 0, 1) := by decide +kernel
theorem dX10_readBoard_12 : decode cX10_readBoard 12 = .ok (.ldc 233, 2) := by decide +kernel
theorem dX10_readBoard_14 : decode cX10_readBoard 14 = .ok (.bipush 20, 2) := by decide +kernel
theorem dX10_readBoard_16 : decode cX10_readBoard 16 = .ok (.sipush 200, 3) := by decide +kernel
theorem dX10_readBoard_19 : decode cX10_readBoard 19 = .ok (.invokevirtual 235, 3) := by decide +kernel
theorem dX10_readBoard_22 : decode cX10_readBoard 22 = .ok (.iastore, 1) := by decide +kernel
theorem dX10_readBoard_23 : decode cX10_readBoard 23 = .ok (.aload_n 0, 1) := by decide +kernel
theorem dX10_readBoard_24 : decode cX10_readBoard 24 = .ok (.getfield 31, 3) := by decide +kernel
theorem dX10_readBoard_27 : decode cX10_readBoard 27 = .ok (.iconst 1, 1) := by decide +kernel
theorem dX10_readBoard_28 : decode cX10_readBoard 28 = .ok (.aload_n 0, 1) := by decide +kernel
theorem dX10_readBoard_29 : decode cX10_readBoard 29 = .ok (.ldc 239, 2) := by decide +kernel
theorem dX10_readBoard_31 : decode cX10_readBoard 31 = .ok (.iconst 5, 1) := by decide +kernel
theorem dX10_readBoard_32 : decode cX10_readBoard 32 = .ok (.bipush 50, 2) := by decide +kernel
theorem dX10_readBoard_34 : decode cX10_readBoard 34 = .ok (.invokevirtual 235, 3) := by decide +kernel
theorem dX10_readBoard_37 : decode cX10_readBoard 37 = .ok (.iastore, 1) := by decide +kernel
theorem dX10_readBoard_38 : decode cX10_readBoard 38 = .ok (.aload_n 0, 1) := by decide +kernel
theorem dX10_readBoard_39 : decode cX10_readBoard 39 = .ok (.getfield 31, 3) := by decide +kernel
theorem dX10_readBoard_42 : decode cX10_readBoard 42 = .ok (.iconst 2, 1) := by decide +kernel
theorem dX10_readBoard_43 : decode cX10_readBoard 43 = .ok (.aload_n 0, 1) := by decide +kernel
theorem dX10_readBoard_44 : decode cX10_readBoard 44 = .ok (.ldc 241, 2) := by decide +kernel
theorem dX10_readBoard_46 : decode cX10_readBoard 46 = .ok (.iconst 0, 1) := by decide +kernel
theorem dX10_readBoard_47 : decode cX10_readBoard 47 = .ok (.bipush 9, 2) := by decide +kernel
theorem dX10_readBoard_49 : decode cX10_readBoard 49 = .ok (.invokevirtual 235, 3) := by decide +kernel
theorem dX10_readBoard_52 : decode cX10_readBoard 52 = .ok (.iastore, 1) := by decide +kernel
theorem dX10_readBoard_53 : decode cX10_readBoard 53 = .ok (.return_, 1) := by decide +kernel
theorem dX10_canTake_0 : decode cX10_canTake 0 = .ok (.aload_n 0, 1) := by decide +kernel
theorem dX10_canTake_1 : decode cX10_canTake 1 = .ok (.invokevirtual 199, 3) := by decide +kernel
theorem dX10_canTake_4 : decode cX10_canTake 4 = .ok (.ifCond .eq 18, 3) := by decide +kernel
theorem dX10_canTake_7 : decode cX10_canTake 7 = .ok (.aload_n 0, 1) := by decide +kernel
theorem dX10_canTake_8 : decode cX10_canTake 8 = .ok (.getfield 31, 3) := by decide +kernel
theorem dX10_canTake_11 : decode cX10_canTake 11 = .ok (.iload_n 1, 1) := by decide +kernel
theorem dX10_canTake_12 : decode cX10_canTake 12 = .ok (.iaload, 1) := by decide +kernel
theorem dX10_canTake_13 : decode cX10_canTake 13 = .ok (.iload_n 2, 1) := by decide +kernel
theorem dX10_canTake_14 : decode cX10_canTake 14 = .ok (.if_icmp .ne 8, 3) := by decide +kernel
theorem dX10_canTake_17 : decode cX10_canTake 17 = .ok (.aload_n 0, 1) := by decide +kernel
theorem dX10_canTake_18 : decode cX10_canTake 18 = .ok (.iconst 3, 1) := by decide +kernel
theorem dX10_canTake_19 : decode cX10_canTake 19 = .ok (.invokevirtual 220, 3) := by decide +kernel
theorem dX10_canTake_22 : decode cX10_canTake 22 = .ok (.aload_n 0, 1) := by decide +kernel
theorem dX10_canTake_23 : decode cX10_canTake 23 = .ok (.invokevirtual 199, 3) := by decide +kernel
theorem dX10_canTake_26 : decode cX10_canTake 26 = .ok (.ifCond .eq 7, 3) := by decide +kernel
theorem dX10_canTake_29 : decode cX10_canTake 29 = .ok (.aload_n 0, 1) := by decide +kernel
theorem dX10_canTake_30 : decode cX10_canTake 30 = .ok (.invokevirtual 217, 3) := by decide +kernel
theorem dX10_canTake_33 : decode cX10_canTake 33 = .ok (.aload_n 0, 1) := by decide +kernel
theorem dX10_canTake_34 : decode cX10_canTake 34 = .ok (.invokevirtual 199, 3) := by decide +kernel
theorem dX10_canTake_37 : decode cX10_canTake 37 = .ok (.ireturn, 1) := by decide +kernel
theorem dX10_readWatcher_0 : decode cX10_readWatcher 0 = .ok (.aload_n 0, 1) := by decide +kernel
theorem dX10_readWatcher_1 : decode cX10_readWatcher 1 = .ok (.iconst 3, 1) := by decide +kernel
theorem dX10_readWatcher_2 : decode cX10_readWatcher 2 = .ok (.iconst 3, 1) := by decide +kernel
theorem dX10_readWatcher_3 : decode cX10_readWatcher 3 = .ok (.invokevirtual 243, 3) := by decide +kernel
theorem dX10_readWatcher_6 : decode cX10_readWatcher 6 = .ok (.ifCond .ne 4, 3) := by decide +kernel
theorem dX10_readWatcher_9 : decode cX10_readWatcher 9 = .ok (.return_, 1) := by decide +kernel
theorem dX10_readWatcher_10 : decode cX10_readWatcher 10 = .ok (.iconst (-1), 1) := by decide +kernel
theorem dX10_readWatcher_11 : decode cX10_readWatcher 11 = .ok (.istore_n 1, 1) := by decide +kernel
theorem dX10_readWatcher_12 : decode cX10_readWatcher 12 = .ok (.aload_n 0, 1) := by decide +kernel
theorem dX10_readWatcher_13 : decode cX10_readWatcher 13 = .ok (.getfield 31, 3) := by decide +kernel
theorem dX10_readWatcher_16 : decode cX10_readWatcher 16 = .ok (.iconst 3, 1) := by decide +kernel
theorem dX10_readWatcher_17 : decode cX10_readWatcher 17 = .ok (.iaload, 1) := by decide +kernel
theorem dX10_readWatcher_18 : decode cX10_readWatcher 18 = .ok (.ifCond .ne 12, 3) := by decide +kernel
theorem dX10_readWatcher_21 : decode cX10_readWatcher 21 = .ok (.aload_n 0, 1) := by decide +kernel
theorem dX10_readWatcher_22 : decode cX10_readWatcher 22 = .ok (.ldc 247, 2) := by decide +kernel
theorem dX10_readWatcher_24 : decode cX10_readWatcher 24 = .ok (.invokevirtual 224, 3) := by decide +kernel
theorem dX10_readWatcher_27 : decode cX10_readWatcher 27 = .ok (.goto 19, 3) := by decide +kernel
theorem dX10_readWatcher_30 : decode cX10_readWatcher 30 = .ok (.aload_n 0, 1) := by decide +kernel
theorem dX10_readWatcher_31 : decode cX10_readWatcher 31 = .ok (.ldc 249, 2) := by decide +kernel
theorem dX10_readWatcher_33 : decode cX10_readWatcher 33 = .ok (.iconst 0, 1) := by decide +kernel
theorem dX10_readWatcher_34 : decode cX10_readWatcher 34 = .ok (.aload_n 0, 1) := by decide +kernel
theorem dX10_readWatcher_35 : decode cX10_readWatcher 35 = .ok (.getfield 31, 3) := by decide +kernel
theorem dX10_readWatcher_38 : decode cX10_readWatcher 38 = .ok (.iconst 3, 1) := by decide +kernel
theorem dX10_readWatcher_39 : decode cX10_readWatcher 39 = .ok (.iaload, 1) := by decide +kernel
theorem dX10_readWatcher_40 : decode cX10_readWatcher 40 = .ok (.iconst 1, 1) := by decide +kernel
theorem dX10_readWatcher_41 : decode cX10_readWatcher 41 = .ok (.isub, 1) := by decide +kernel
theorem dX10_readWatcher_42 : decode cX10_readWatcher 42 = .ok (.invokevirtual 235, 3) := by decide +kernel
theorem dX10_readWatcher_45 : decode cX10_readWatcher 45 = .ok (.istore_n 1, 1) := by decide +kernel
theorem dX10_readWatcher_46 : decode cX10_readWatcher 46 = .ok (.aload_n 0, 1) := by decide +kernel
theorem dX10_readWatcher_47 : decode cX10_readWatcher 47 = .ok (.getfield 31, 3) := by decide +kernel
theorem dX10_readWatcher_50 : decode cX10_readWatcher 50 = .ok (.bipush 8, 2) := by decide +kernel
theorem dX10_readWatcher_52 : decode cX10_readWatcher 52 = .ok (.aload_n 0, 1) := by decide +kernel
theorem dX10_readWatcher_53 : decode cX10_readWatcher 53 = .ok (.getfield 31, 3) := by decide +kernel
theorem dX10_readWatcher_56 : decode cX10_readWatcher 56 = .ok (.iconst 3, 1) := by decide +kernel
theorem dX10_readWatcher_57 : decode cX10_readWatcher 57 = .ok (.iaload, 1) := by decide +kernel
theorem dX10_readWatcher_58 : decode cX10_readWatcher 58 = .ok (.iadd, 1) := by decide +kernel
theorem dX10_readWatcher_59 : decode cX10_readWatcher 59 = .ok (.iload_n 1, 1) := by decide +kernel
theorem dX10_readWatcher_60 : decode cX10_readWatcher 60 = .ok (.iastore, 1) := by decide +kernel
theorem dX10_readWatcher_61 : decode cX10_readWatcher 61 = .ok (.aload_n 0, 1) := by decide +kernel
theorem dX10_readWatcher_62 : decode cX10_readWatcher 62 = .ok (.getfield 31, 3) := by decide +kernel
theorem dX10_readWatcher_65 : decode cX10_readWatcher 65 = .ok (.iconst 3, 1) := by decide +kernel
theorem dX10_readWatcher_66 : decode cX10_readWatcher 66 = .ok (.dup2, 1) := by decide +kernel
theorem dX10_readWatcher_67 : decode cX10_readWatcher 67 = .ok (.iaload, 1) := by decide +kernel
theorem dX10_readWatcher_68 : decode cX10_readWatcher 68 = .ok (.iconst 1, 1) := by decide +kernel
theorem dX10_readWatcher_69 : decode cX10_readWatcher 69 = .ok (.iadd, 1) := by decide +kernel
theorem dX10_readWatcher_70 : decode cX10_readWatcher 70 = .ok (.iastore, 1) := by decide +kernel
theorem dX10_readWatcher_71 : decode cX10_readWatcher 71 = .ok (.return_, 1) := by decide +kernel
theorem dX10_readTask_0 : decode cX10_readTask 0 = .ok (.aload_n 0, 1) := by decide +kernel
theorem dX10_readTask_1 : decode cX10_readTask 1 = .ok (.iconst 4, 1) := by decide +kernel
theorem dX10_readTask_2 : decode cX10_readTask 2 = .ok (.iconst 5, 1) := by decide +kernel
theorem dX10_readTask_3 : decode cX10_readTask 3 = .ok (.invokevirtual 243, 3) := by decide +kernel
theorem dX10_readTask_6 : decode cX10_readTask 6 = .ok (.ifCond .ne 4, 3) := by decide +kernel
theorem dX10_readTask_9 : decode cX10_readTask 9 = .ok (.return_, 1) := by decide +kernel
theorem dX10_readTask_10 : decode cX10_readTask 10 = .ok (.bipush 11, 2) := by decide +kernel
theorem dX10_readTask_12 : decode cX10_readTask 12 = .ok (.bipush 7, 2) := by decide +kernel
theorem dX10_readTask_14 : decode cX10_readTask 14 = .ok (.aload_n 0, 1) := by decide +kernel
theorem dX10_readTask_15 : decode cX10_readTask 15 = .ok (.getfield 31, 3) := by decide +kernel
theorem dX10_readTask_18 : decode cX10_readTask 18 = .ok (.iconst 4, 1) := by decide +kernel
theorem dX10_readTask_19 : decode cX10_readTask 19 = .ok (.iaload, 1) := by decide +kernel
theorem dX10_readTask_20 : decode cX10_readTask 20 = .ok (.imul, 1) := by decide +kernel
theorem dX10_readTask_21 : decode cX10_readTask 21 = .ok (.iadd, 1) := by decide +kernel
theorem dX10_readTask_22 : decode cX10_readTask 22 = .ok (.istore_n 1, 1) := by decide +kernel
theorem dX10_readTask_23 : decode cX10_readTask 23 = .ok (.aload_n 0, 1) := by decide +kernel
theorem dX10_readTask_24 : decode cX10_readTask 24 = .ok (.getfield 31, 3) := by decide +kernel
theorem dX10_readTask_27 : decode cX10_readTask 27 = .ok (.iload_n 1, 1) := by decide +kernel
theorem dX10_readTask_28 : decode cX10_readTask 28 = .ok (.aload_n 0, 1) := by decide +kernel
theorem dX10_readTask_29 : decode cX10_readTask 29 = .ok (.ldc 249, 2) := by decide +kernel
theorem dX10_readTask_31 : decode cX10_readTask 31 = .ok (.iconst 0, 1) := by decide +kernel
theorem dX10_readTask_32 : decode cX10_readTask 32 = .ok (.aload_n 0, 1) := by decide +kernel
theorem dX10_readTask_33 : decode cX10_readTask 33 = .ok (.getfield 31, 3) := by decide +kernel
theorem dX10_readTask_36 : decode cX10_readTask 36 = .ok (.iconst 3, 1) := by decide +kernel
theorem dX10_readTask_37 : decode cX10_readTask 37 = .ok (.iaload, 1) := by decide +kernel
theorem dX10_readTask_38 : decode cX10_readTask 38 = .ok (.iconst 1, 1) := by decide +kernel
theorem dX10_readTask_39 : decode cX10_readTask 39 = .ok (.isub, 1) := by decide +kernel
theorem dX10_readTask_40 : decode cX10_readTask 40 = .ok (.invokevirtual 235, 3) := by decide +kernel
theorem dX10_readTask_43 : decode cX10_readTask 43 = .ok (.iastore, 1) := by decide +kernel
theorem dX10_readTask_44 : decode cX10_readTask 44 = .ok (.aload_n 0, 1) := by decide +kernel
theorem dX10_readTask_45 : decode cX10_readTask 45 = .ok (.getfield 31, 3) := by decide +kernel
theorem dX10_readTask_48 : decode cX10_readTask 48 = .ok (.iload_n 1, 1) := by decide +kernel
theorem dX10_readTask_49 : decode cX10_readTask 49 = .ok (.iconst 1, 1) := by decide +kernel
theorem dX10_readTask_50 : decode cX10_readTask 50 = .ok (.iadd, 1) := by decide +kernel
theorem dX10_readTask_51 : decode cX10_readTask 51 = .ok (.aload_n 0, 1) := by decide +kernel
theorem dX10_readTask_52 : decode cX10_readTask 52 = .ok (.ldc 251, 2) := by decide +kernel
theorem dX10_readTask_54 : decode cX10_readTask 54 = .ok (.iconst 4, 1) := by decide +kernel
theorem dX10_readTask_55 : decode cX10_readTask 55 = .ok (.bipush 60, 2) := by decide +kernel
theorem dX10_readTask_57 : decode cX10_readTask 57 = .ok (.invokevirtual 235, 3) := by decide +kernel
theorem dX10_readTask_60 : decode cX10_readTask 60 = .ok (.iastore, 1) := by decide +kernel
theorem dX10_readTask_61 : decode cX10_readTask 61 = .ok (.aload_n 0, 1) := by decide +kernel
theorem dX10_readTask_62 : decode cX10_readTask 62 = .ok (.getfield 31, 3) := by decide +kernel
theorem dX10_readTask_65 : decode cX10_readTask 65 = .ok (.iload_n 1, 1) := by decide +kernel
theorem dX10_readTask_66 : decode cX10_readTask 66 = .ok (.iconst 2, 1) := by decide +kernel
theorem dX10_readTask_67 : decode cX10_readTask 67 = .ok (.iadd, 1) := by decide +kernel
theorem dX10_readTask_68 : decode cX10_readTask 68 = .ok (.aload_n 0, 1) := by decide +kernel
theorem dX10_readTask_69 : decode cX10_readTask 69 = .ok (.ldc 253, 2) := by decide +kernel
theorem dX10_readTask_71 : decode cX10_readTask 71 = .ok (.iconst 0, 1) := by decide +kernel
theorem dX10_readTask_72 : decode cX10_readTask 72 = .ok (.bipush 99, 2) := by decide +kernel
theorem dX10_readTask_74 : decode cX10_readTask 74 = .ok (.invokevirtual 235, 3) := by decide +kernel
theorem dX10_readTask_77 : decode cX10_readTask 77 = .ok (.iastore, 1) := by decide +kernel
theorem dX10_readTask_78 : decode cX10_readTask 78 = .ok (.aload_n 0, 1) := by decide +kernel
theorem dX10_readTask_79 : decode cX10_readTask 79 = .ok (.getfield 31, 3) := by decide +kernel
theorem dX10_readTask_82 : decode cX10_readTask 82 = .ok (.iload_n 1, 1) := by decide +kernel
theorem dX10_readTask_83 : decode cX10_readTask 83 = .ok (.iconst 3, 1) := by decide +kernel
theorem dX10_readTask_84 : decode cX10_readTask 84 = .ok (.iadd, 1) := by decide +kernel
theorem dX10_readTask_85 : decode cX10_readTask 85 = .ok (.aload_n 0, 1) := by decide +kernel
theorem dX10_readTask_86 : decode cX10_readTask 86 = .ok (.ldc 255, 2) := by decide +kernel
theorem dX10_readTask_88 : decode cX10_readTask 88 = .ok (.aload_n 0, 1) := by decide +kernel
theorem dX10_readTask_89 : decode cX10_readTask 89 = .ok (.getfield 31, 3) := by decide +kernel
theorem dX10_readTask_92 : decode cX10_readTask 92 = .ok (.iload_n 1, 1) := by decide +kernel
theorem dX10_readTask_93 : decode cX10_readTask 93 = .ok (.iconst 2, 1) := by decide +kernel
theorem dX10_readTask_94 : decode cX10_readTask 94 = .ok (.iadd, 1) := by decide +kernel
theorem dX10_readTask_95 : decode cX10_readTask 95 = .ok (.iaload, 1) := by decide +kernel
theorem dX10_readTask_96 : decode cX10_readTask 96 = .ok (.iconst 1, 1) := by decide +kernel
theorem dX10_readTask_97 : decode cX10_readTask 97 = .ok (.iadd, 1) := by decide +kernel
theorem dX10_readTask_98 : decode cX10_readTask 98 = .ok (.bipush 120, 2) := by decide +kernel
theorem dX10_readTask_100 : decode cX10_readTask 100 = .ok (.invokevirtual 235, 3) := by decide +kernel
theorem dX10_readTask_103 : decode cX10_readTask 103 = .ok (.iastore, 1) := by decide +kernel
theorem dX10_readTask_104 : decode cX10_readTask 104 = .ok (.aload_n 0, 1) := by decide +kernel
theorem dX10_readTask_105 : decode cX10_readTask 105 = .ok (.getfield 31, 3) := by decide +kernel
theorem dX10_readTask_108 : decode cX10_readTask 108 = .ok (.iload_n 1, 1) := by decide +kernel
theorem dX10_readTask_109 : decode cX10_readTask 109 = .ok (.iconst 4, 1) := by decide +kernel
theorem dX10_readTask_110 : decode cX10_readTask 110 = .ok (.iadd, 1) := by decide +kernel
theorem dX10_readTask_111 : decode cX10_readTask 111 = .ok (.aload_n 0, 1) := by decide +kernel
theorem dX10_readTask_112 : decode cX10_readTask 112 = .ok (.ldc_w 257, 3) := by decide +kernel
theorem dX10_readTask_115 : decode cX10_readTask 115 = .ok (.iconst 0, 1) := by decide +kernel
theorem dX10_readTask_116 : decode cX10_readTask 116 = .ok (.bipush 20, 2) := by decide +kernel
theorem dX10_readTask_118 : decode cX10_readTask 118 = .ok (.invokevirtual 235, 3) := by decide +kernel
theorem dX10_readTask_121 : decode cX10_readTask 121 = .ok (.iastore, 1) := by decide +kernel
theorem dX10_readTask_122 : decode cX10_readTask 122 = .ok (.aload_n 0, 1) := by decide +kernel
theorem dX10_readTask_123 : decode cX10_readTask 123 = .ok (.getfield 31, 3) := by decide +kernel
theorem dX10_readTask_126 : decode cX10_readTask 126 = .ok (.iload_n 1, 1) := by decide +kernel
theorem dX10_readTask_127 : decode cX10_readTask 127 = .ok (.iconst 5, 1) := by decide +kernel
theorem dX10_readTask_128 : decode cX10_readTask 128 = .ok (.iadd, 1) := by decide +kernel
theorem dX10_readTask_129 : decode cX10_readTask 129 = .ok (.aload_n 0, 1) := by decide +kernel
theorem dX10_readTask_130 : decode cX10_readTask 130 = .ok (.ldc_w 259, 3) := by decide +kernel
theorem dX10_readTask_133 : decode cX10_readTask 133 = .ok (.aload_n 0, 1) := by decide +kernel
theorem dX10_readTask_134 : decode cX10_readTask 134 = .ok (.getfield 31, 3) := by decide +kernel
theorem dX10_readTask_137 : decode cX10_readTask 137 = .ok (.iload_n 1, 1) := by decide +kernel
theorem dX10_readTask_138 : decode cX10_readTask 138 = .ok (.iconst 4, 1) := by decide +kernel
theorem dX10_readTask_139 : decode cX10_readTask 139 = .ok (.iadd, 1) := by decide +kernel
theorem dX10_readTask_140 : decode cX10_readTask 140 = .ok (.iaload, 1) := by decide +kernel
theorem dX10_readTask_141 : decode cX10_readTask 141 = .ok (.bipush 40, 2) := by decide +kernel
theorem dX10_readTask_143 : decode cX10_readTask 143 = .ok (.invokevirtual 235, 3) := by decide +kernel
theorem dX10_readTask_146 : decode cX10_readTask 146 = .ok (.iastore, 1) := by decide +kernel
theorem dX10_readTask_147 : decode cX10_readTask 147 = .ok (.aload_n 0, 1) := by decide +kernel
theorem dX10_readTask_148 : decode cX10_readTask 148 = .ok (.getfield 31, 3) := by decide +kernel
theorem dX10_readTask_151 : decode cX10_readTask 151 = .ok (.iconst 4, 1) := by decide +kernel
theorem dX10_readTask_152 : decode cX10_readTask 152 = .ok (.dup2, 1) := by decide +kernel
theorem dX10_readTask_153 : decode cX10_readTask 153 = .ok (.iaload, 1) := by decide +kernel
theorem dX10_readTask_154 : decode cX10_readTask 154 = .ok (.iconst 1, 1) := by decide +kernel
theorem dX10_readTask_155 : decode cX10_readTask 155 = .ok (.iadd, 1) := by decide +kernel
theorem dX10_readTask_156 : decode cX10_readTask 156 = .ok (.iastore, 1) := by decide +kernel
theorem dX10_readTask_157 : decode cX10_readTask 157 = .ok (.return_, 1) := by decide +kernel
theorem dX10_takesNew_0 : decode cX10_takesNew 0 = .ok (.aload_n 0, 1) := by decide +kernel
theorem dX10_takesNew_1 : decode cX10_takesNew 1 = .ok (.invokevirtual 199, 3) := by decide +kernel
theorem dX10_takesNew_4 : decode cX10_takesNew 4 = .ok (.ifCond .eq 36, 3) := by decide +kernel
theorem dX10_takesNew_7 : decode cX10_takesNew 7 = .ok (.aload_n 0, 1) := by decide +kernel
theorem dX10_takesNew_8 : decode cX10_takesNew 8 = .ok (.getfield 176, 3) := by decide +kernel
theorem dX10_takesNew_11 : decode cX10_takesNew 11 = .ok (.iconst 2, 1) := by decide +kernel
theorem dX10_takesNew_12 : decode cX10_takesNew 12 = .ok (.if_icmp .ne 28, 3) := by decide +kernel
theorem dX10_takesNew_15 : decode cX10_takesNew 15 = .ok (.aload_n 0, 1) := by decide +kernel
theorem dX10_takesNew_16 : decode cX10_takesNew 16 = .ok (.getfield 187, 3) := by decide +kernel
theorem dX10_takesNew_19 : decode cX10_takesNew 19 = .ok (.iload_n 2, 1) := by decide +kernel
theorem dX10_takesNew_20 : decode cX10_takesNew 20 = .ok (.if_icmp .gt 20, 3) := by decide +kernel
theorem dX10_takesNew_23 : decode cX10_takesNew 23 = .ok (.iload_n 1, 1) := by decide +kernel
theorem dX10_takesNew_24 : decode cX10_takesNew 24 = .ok (.aload_n 0, 1) := by decide +kernel
theorem dX10_takesNew_25 : decode cX10_takesNew 25 = .ok (.getfield 187, 3) := by decide +kernel
theorem dX10_takesNew_28 : decode cX10_takesNew 28 = .ok (.ishr, 1) := by decide +kernel
theorem dX10_takesNew_29 : decode cX10_takesNew 29 = .ok (.iconst 1, 1) := by decide +kernel
theorem dX10_takesNew_30 : decode cX10_takesNew 30 = .ok (.iand, 1) := by decide +kernel
theorem dX10_takesNew_31 : decode cX10_takesNew 31 = .ok (.iconst 1, 1) := by decide +kernel
theorem dX10_takesNew_32 : decode cX10_takesNew 32 = .ok (.if_icmp .ne 8, 3) := by decide +kernel
theorem dX10_takesNew_35 : decode cX10_takesNew 35 = .ok (.aload_n 0, 1) := by decide +kernel
theorem dX10_takesNew_36 : decode cX10_takesNew 36 = .ok (.iconst 2, 1) := by decide +kernel
theorem dX10_takesNew_37 : decode cX10_takesNew 37 = .ok (.invokevirtual 220, 3) := by decide +kernel
theorem dX10_takesNew_40 : decode cX10_takesNew 40 = .ok (.aload_n 0, 1) := by decide +kernel
theorem dX10_takesNew_41 : decode cX10_takesNew 41 = .ok (.iconst 0, 1) := by decide +kernel
theorem dX10_takesNew_42 : decode cX10_takesNew 42 = .ok (.iload_n 2, 1) := by decide +kernel
theorem dX10_takesNew_43 : decode cX10_takesNew 43 = .ok (.invokevirtual 228, 3) := by decide +kernel
theorem dX10_takesNew_46 : decode cX10_takesNew 46 = .ok (.ireturn, 1) := by decide +kernel
theorem dX10_readNode_0 : decode cX10_readNode 0 = .ok (.aload_n 0, 1) := by decide +kernel
theorem dX10_readNode_1 : decode cX10_readNode 1 = .ok (.invokevirtual 199, 3) := by decide +kernel
theorem dX10_readNode_4 : decode cX10_readNode 4 = .ok (.ifCond .eq 17, 3) := by decide +kernel
theorem dX10_readNode_7 : decode cX10_readNode 7 = .ok (.aload_n 0, 1) := by decide +kernel
theorem dX10_readNode_8 : decode cX10_readNode 8 = .ok (.getfield 31, 3) := by decide +kernel
theorem dX10_readNode_11 : decode cX10_readNode 11 = .ok (.iconst 4, 1) := by decide +kernel
theorem dX10_readNode_12 : decode cX10_readNode 12 = .ok (.iaload, 1) := by decide +kernel
theorem dX10_readNode_13 : decode cX10_readNode 13 = .ok (.ifCond .ne 8, 3) := by decide +kernel
theorem dX10_readNode_16 : decode cX10_readNode 16 = .ok (.aload_n 0, 1) := by decide +kernel
theorem dX10_readNode_17 : decode cX10_readNode 17 = .ok (.iconst 1, 1) := by decide +kernel
theorem dX10_readNode_18 : decode cX10_readNode 18 = .ok (.invokevirtual 220, 3) := by decide +kernel
theorem dX10_readNode_21 : decode cX10_readNode 21 = .ok (.aload_n 0, 1) := by decide +kernel
theorem dX10_readNode_22 : decode cX10_readNode 22 = .ok (.invokevirtual 199, 3) := by decide +kernel
theorem dX10_readNode_25 : decode cX10_readNode 25 = .ok (.ifCond .ne 4, 3) := by decide +kernel
theorem dX10_readNode_28 : decode cX10_readNode 28 = .ok (.return_, 1) := by decide +kernel
theorem dX10_readNode_29 : decode cX10_readNode 29 = .ok (.aload_n 0, 1) := by decide +kernel
theorem dX10_readNode_30 : decode cX10_readNode 30 = .ok (.getfield 31, 3) := by decide +kernel
theorem dX10_readNode_33 : decode cX10_readNode 33 = .ok (.iconst 4, 1) := by decide +kernel
theorem dX10_readNode_34 : decode cX10_readNode 34 = .ok (.iaload, 1) := by decide +kernel
theorem dX10_readNode_35 : decode cX10_readNode 35 = .ok (.iconst 1, 1) := by decide +kernel
theorem dX10_readNode_36 : decode cX10_readNode 36 = .ok (.isub, 1) := by decide +kernel
theorem dX10_readNode_37 : decode cX10_readNode 37 = .ok (.istore_n 1, 1) := by decide +kernel
theorem dX10_readNode_38 : decode cX10_readNode 38 = .ok (.aload_n 0, 1) := by decide +kernel
theorem dX10_readNode_39 : decode cX10_readNode 39 = .ok (.bipush 11, 2) := by decide +kernel
theorem dX10_readNode_41 : decode cX10_readNode 41 = .ok (.bipush 7, 2) := by decide +kernel
theorem dX10_readNode_43 : decode cX10_readNode 43 = .ok (.iload_n 1, 1) := by decide +kernel
theorem dX10_readNode_44 : decode cX10_readNode 44 = .ok (.imul, 1) := by decide +kernel
theorem dX10_readNode_45 : decode cX10_readNode 45 = .ok (.iadd, 1) := by decide +kernel
theorem dX10_readNode_46 : decode cX10_readNode 46 = .ok (.bipush 6, 2) := by decide +kernel
theorem dX10_readNode_48 : decode cX10_readNode 48 = .ok (.iadd, 1) := by decide +kernel
theorem dX10_readNode_49 : decode cX10_readNode 49 = .ok (.bipush 6, 2) := by decide +kernel
theorem dX10_readNode_51 : decode cX10_readNode 51 = .ok (.invokevirtual 243, 3) := by decide +kernel
theorem dX10_readNode_54 : decode cX10_readNode 54 = .ok (.ifCond .ne 4, 3) := by decide +kernel
theorem dX10_readNode_57 : decode cX10_readNode 57 = .ok (.return_, 1) := by decide +kernel
theorem dX10_readNode_58 : decode cX10_readNode 58 = .ok (.aload_n 0, 1) := by decide +kernel
theorem dX10_readNode_59 : decode cX10_readNode 59 = .ok (.getfield 31, 3) := by decide +kernel
theorem dX10_readNode_62 : decode cX10_readNode 62 = .ok (.bipush 11, 2) := by decide +kernel
theorem dX10_readNode_64 : decode cX10_readNode 64 = .ok (.bipush 7, 2) := by decide +kernel
theorem dX10_readNode_66 : decode cX10_readNode 66 = .ok (.iload_n 1, 1) := by decide +kernel
theorem dX10_readNode_67 : decode cX10_readNode 67 = .ok (.imul, 1) := by decide +kernel
theorem dX10_readNode_68 : decode cX10_readNode 68 = .ok (.iadd, 1) := by decide +kernel
theorem dX10_readNode_69 : decode cX10_readNode 69 = .ok (.bipush 6, 2) := by decide +kernel
theorem dX10_readNode_71 : decode cX10_readNode 71 = .ok (.iadd, 1) := by decide +kernel
theorem dX10_readNode_72 : decode cX10_readNode 72 = .ok (.iaload, 1) := by decide +kernel
theorem dX10_readNode_73 : decode cX10_readNode 73 = .ok (.istore_n 2, 1) := by decide +kernel
theorem dX10_readNode_74 : decode cX10_readNode 74 = .ok (.aload_n 0, 1) := by decide +kernel
theorem dX10_readNode_75 : decode cX10_readNode 75 = .ok (.iconst 1, 1) := by decide +kernel
theorem dX10_readNode_76 : decode cX10_readNode 76 = .ok (.bipush 9, 2) := by decide +kernel
theorem dX10_readNode_78 : decode cX10_readNode 78 = .ok (.invokevirtual 228, 3) := by decide +kernel
theorem dX10_readNode_81 : decode cX10_readNode 81 = .ok (.istore_n 3, 1) := by decide +kernel
theorem dX10_readNode_82 : decode cX10_readNode 82 = .ok (.iconst 0, 1) := by decide +kernel
theorem dX10_readNode_83 : decode cX10_readNode 83 = .ok (.istore 4, 2) := by decide +kernel
theorem dX10_readNode_85 : decode cX10_readNode 85 = .ok (.iload_n 2, 1) := by decide +kernel
theorem dX10_readNode_86 : decode cX10_readNode 86 = .ok (.ifCond .le 45, 3) := by decide +kernel
theorem dX10_readNode_89 : decode cX10_readNode 89 = .ok (.aload_n 0, 1) := by decide +kernel
theorem dX10_readNode_90 : decode cX10_readNode 90 = .ok (.ldc_w 261, 3) := by decide +kernel
theorem dX10_readNode_93 : decode cX10_readNode 93 = .ok (.invokevirtual 224, 3) := by decide +kernel
theorem dX10_readNode_96 : decode cX10_readNode 96 = .ok (.aload_n 0, 1) := by decide +kernel
theorem dX10_readNode_97 : decode cX10_readNode 97 = .ok (.iload 4, 2) := by decide +kernel
theorem dX10_readNode_99 : decode cX10_readNode 99 = .ok (.iload_n 2, 1) := by decide +kernel
theorem dX10_readNode_100 : decode cX10_readNode 100 = .ok (.iconst 1, 1) := by decide +kernel
theorem dX10_readNode_101 : decode cX10_readNode 101 = .ok (.isub, 1) := by decide +kernel
theorem dX10_readNode_102 : decode cX10_readNode 102 = .ok (.invokevirtual 263, 3) := by decide +kernel
theorem dX10_readNode_105 : decode cX10_readNode 105 = .ok (.istore 5, 2) := by decide +kernel
theorem dX10_readNode_107 : decode cX10_readNode 107 = .ok (.iload 4, 2) := by decide +kernel
theorem dX10_readNode_109 : decode cX10_readNode 109 = .ok (.iconst 1, 1) := by decide +kernel
theorem dX10_readNode_110 : decode cX10_readNode 110 = .ok (.iload 5, 2) := by decide +kernel
theorem dX10_readNode_112 : decode cX10_readNode 112 = .ok (.ishl, 1) := by decide +kernel
theorem dX10_readNode_113 : decode cX10_readNode 113 = .ok (.ior, 1) := by decide +kernel
theorem dX10_readNode_114 : decode cX10_readNode 114 = .ok (.istore 4, 2) := by decide +kernel
theorem dX10_readNode_116 : decode cX10_readNode 116 = .ok (.aload_n 0, 1) := by decide +kernel
theorem dX10_readNode_117 : decode cX10_readNode 117 = .ok (.invokevirtual 199, 3) := by decide +kernel
theorem dX10_readNode_120 : decode cX10_readNode 120 = .ok (.ifCond .eq 11, 3) := by decide +kernel
theorem dX10_readNode_123 : decode cX10_readNode 123 = .ok (.aload_n 0, 1) := by decide +kernel
theorem dX10_readNode_124 : decode cX10_readNode 124 = .ok (.getfield 176, 3) := by decide +kernel
theorem dX10_readNode_127 : decode cX10_readNode 127 = .ok (.iconst 2, 1) := by decide +kernel
theorem dX10_readNode_128 : decode cX10_readNode 128 = .ok (.if_icmp .eq (-32), 3) := by decide +kernel
theorem dX10_readNode_131 : decode cX10_readNode 131 = .ok (.aload_n 0, 1) := by decide +kernel
theorem dX10_readNode_132 : decode cX10_readNode 132 = .ok (.getfield 31, 3) := by decide +kernel
theorem dX10_readNode_135 : decode cX10_readNode 135 = .ok (.bipush 46, 2) := by decide +kernel
theorem dX10_readNode_137 : decode cX10_readNode 137 = .ok (.iconst 2, 1) := by decide +kernel
theorem dX10_readNode_138 : decode cX10_readNode 138 = .ok (.bipush 6, 2) := by decide +kernel
theorem dX10_readNode_140 : decode cX10_readNode 140 = .ok (.iload_n 1, 1) := by decide +kernel
theorem dX10_readNode_141 : decode cX10_readNode 141 = .ok (.imul, 1) := by decide +kernel
theorem dX10_readNode_142 : decode cX10_readNode 142 = .ok (.iload_n 2, 1) := by decide +kernel
theorem dX10_readNode_143 : decode cX10_readNode 143 = .ok (.iadd, 1) := by decide +kernel
theorem dX10_readNode_144 : decode cX10_readNode 144 = .ok (.imul, 1) := by decide +kernel
theorem dX10_readNode_145 : decode cX10_readNode 145 = .ok (.iadd, 1) := by decide +kernel
theorem dX10_readNode_146 : decode cX10_readNode 146 = .ok (.iload_n 3, 1) := by decide +kernel
theorem dX10_readNode_147 : decode cX10_readNode 147 = .ok (.iastore, 1) := by decide +kernel
theorem dX10_readNode_148 : decode cX10_readNode 148 = .ok (.aload_n 0, 1) := by decide +kernel
theorem dX10_readNode_149 : decode cX10_readNode 149 = .ok (.getfield 31, 3) := by decide +kernel
theorem dX10_readNode_152 : decode cX10_readNode 152 = .ok (.bipush 46, 2) := by decide +kernel
theorem dX10_readNode_154 : decode cX10_readNode 154 = .ok (.iconst 2, 1) := by decide +kernel
theorem dX10_readNode_155 : decode cX10_readNode 155 = .ok (.bipush 6, 2) := by decide +kernel
theorem dX10_readNode_157 : decode cX10_readNode 157 = .ok (.iload_n 1, 1) := by decide +kernel
theorem dX10_readNode_158 : decode cX10_readNode 158 = .ok (.imul, 1) := by decide +kernel
theorem dX10_readNode_159 : decode cX10_readNode 159 = .ok (.iload_n 2, 1) := by decide +kernel
theorem dX10_readNode_160 : decode cX10_readNode 160 = .ok (.iadd, 1) := by decide +kernel
theorem dX10_readNode_161 : decode cX10_readNode 161 = .ok (.imul, 1) := by decide +kernel
theorem dX10_readNode_162 : decode cX10_readNode 162 = .ok (.iadd, 1) := by decide +kernel
theorem dX10_readNode_163 : decode cX10_readNode 163 = .ok (.iconst 1, 1) := by decide +kernel
theorem dX10_readNode_164 : decode cX10_readNode 164 = .ok (.iadd, 1) := by decide +kernel
theorem dX10_readNode_165 : decode cX10_readNode 165 = .ok (.iload 4, 2) := by decide +kernel
theorem dX10_readNode_167 : decode cX10_readNode 167 = .ok (.iastore, 1) := by decide +kernel
theorem dX10_readNode_168 : decode cX10_readNode 168 = .ok (.aload_n 0, 1) := by decide +kernel
theorem dX10_readNode_169 : decode cX10_readNode 169 = .ok (.getfield 31, 3) := by decide +kernel
theorem dX10_readNode_172 : decode cX10_readNode 172 = .ok (.bipush 11, 2) := by decide +kernel
theorem dX10_readNode_174 : decode cX10_readNode 174 = .ok (.bipush 7, 2) := by decide +kernel
theorem dX10_readNode_176 : decode cX10_readNode 176 = .ok (.iload_n 1, 1) := by decide +kernel
theorem dX10_readNode_177 : decode cX10_readNode 177 = .ok (.imul, 1) := by decide +kernel
theorem dX10_readNode_178 : decode cX10_readNode 178 = .ok (.iadd, 1) := by decide +kernel
theorem dX10_readNode_179 : decode cX10_readNode 179 = .ok (.bipush 6, 2) := by decide +kernel
theorem dX10_readNode_181 : decode cX10_readNode 181 = .ok (.iadd, 1) := by decide +kernel
theorem dX10_readNode_182 : decode cX10_readNode 182 = .ok (.dup2, 1) := by decide +kernel
theorem dX10_readNode_183 : decode cX10_readNode 183 = .ok (.iaload, 1) := by decide +kernel
theorem dX10_readNode_184 : decode cX10_readNode 184 = .ok (.iconst 1, 1) := by decide +kernel
theorem dX10_readNode_185 : decode cX10_readNode 185 = .ok (.iadd, 1) := by decide +kernel
theorem dX10_readNode_186 : decode cX10_readNode 186 = .ok (.iastore, 1) := by decide +kernel
theorem dX10_readNode_187 : decode cX10_readNode 187 = .ok (.return_, 1) := by decide +kernel
theorem dX10_wordOf_0 : decode cX10_wordOf 0 = .ok (.iload_n 0, 1) := by decide +kernel
theorem dX10_wordOf_1 : decode cX10_wordOf 1 = .ok (.tableswitch 55 0 4 #[35, 39, 43, 47, 51], 35) := by decide +kernel
theorem dX10_wordOf_36 : decode cX10_wordOf 36 = .ok (.ldc_w 266, 3) := by decide +kernel
theorem dX10_wordOf_39 : decode cX10_wordOf 39 = .ok (.areturn, 1) := by decide +kernel
theorem dX10_wordOf_40 : decode cX10_wordOf 40 = .ok (.ldc_w 268, 3) := by decide +kernel
theorem dX10_wordOf_43 : decode cX10_wordOf 43 = .ok (.areturn, 1) := by decide +kernel
theorem dX10_wordOf_44 : decode cX10_wordOf 44 = .ok (.ldc_w 270, 3) := by decide +kernel
theorem dX10_wordOf_47 : decode cX10_wordOf 47 = .ok (.areturn, 1) := by decide +kernel
theorem dX10_wordOf_48 : decode cX10_wordOf 48 = .ok (.ldc_w 272, 3) := by decide +kernel
theorem dX10_wordOf_51 : decode cX10_wordOf 51 = .ok (.areturn, 1) := by decide +kernel
theorem dX10_wordOf_52 : decode cX10_wordOf 52 = .ok (.ldc_w 274, 3) := by decide +kernel
theorem dX10_wordOf_55 : decode cX10_wordOf 55 = .ok (.areturn, 1) := by decide +kernel
theorem dX10_wordOf_56 : decode cX10_wordOf 56 = .ok (.ldc_w 276, 3) := by decide +kernel
theorem dX10_wordOf_59 : decode cX10_wordOf 59 = .ok (.areturn, 1) := by decide +kernel
theorem dX10_taskRead_0 : decode cX10_taskRead 0 = .ok (.aload_n 0, 1) := by decide +kernel
theorem dX10_taskRead_1 : decode cX10_taskRead 1 = .ok (.invokevirtual 199, 3) := by decide +kernel
theorem dX10_taskRead_4 : decode cX10_taskRead 4 = .ok (.ifCond .eq 16, 3) := by decide +kernel
theorem dX10_taskRead_7 : decode cX10_taskRead 7 = .ok (.aload_n 0, 1) := by decide +kernel
theorem dX10_taskRead_8 : decode cX10_taskRead 8 = .ok (.getfield 176, 3) := by decide +kernel
theorem dX10_taskRead_11 : decode cX10_taskRead 11 = .ok (.iconst 2, 1) := by decide +kernel
theorem dX10_taskRead_12 : decode cX10_taskRead 12 = .ok (.if_icmp .eq 8, 3) := by decide +kernel
theorem dX10_taskRead_15 : decode cX10_taskRead 15 = .ok (.aload_n 0, 1) := by decide +kernel
theorem dX10_taskRead_16 : decode cX10_taskRead 16 = .ok (.iconst 1, 1) := by decide +kernel
theorem dX10_taskRead_17 : decode cX10_taskRead 17 = .ok (.invokevirtual 220, 3) := by decide +kernel
theorem dX10_taskRead_20 : decode cX10_taskRead 20 = .ok (.aload_n 0, 1) := by decide +kernel
theorem dX10_taskRead_21 : decode cX10_taskRead 21 = .ok (.invokevirtual 199, 3) := by decide +kernel
theorem dX10_taskRead_24 : decode cX10_taskRead 24 = .ok (.ifCond .eq 42, 3) := by decide +kernel
theorem dX10_taskRead_27 : decode cX10_taskRead 27 = .ok (.aload_n 0, 1) := by decide +kernel
theorem dX10_taskRead_28 : decode cX10_taskRead 28 = .ok (.getfield 187, 3) := by decide +kernel
theorem dX10_taskRead_31 : decode cX10_taskRead 31 = .ok (.aload_n 0, 1) := by decide +kernel
theorem dX10_taskRead_32 : decode cX10_taskRead 32 = .ok (.getfield 31, 3) := by decide +kernel
theorem dX10_taskRead_35 : decode cX10_taskRead 35 = .ok (.iconst 4, 1) := by decide +kernel
theorem dX10_taskRead_36 : decode cX10_taskRead 36 = .ok (.iaload, 1) := by decide +kernel
theorem dX10_taskRead_37 : decode cX10_taskRead 37 = .ok (.if_icmp .ge 24, 3) := by decide +kernel
theorem dX10_taskRead_40 : decode cX10_taskRead 40 = .ok (.aload_n 0, 1) := by decide +kernel
theorem dX10_taskRead_41 : decode cX10_taskRead 41 = .ok (.getfield 31, 3) := by decide +kernel
theorem dX10_taskRead_44 : decode cX10_taskRead 44 = .ok (.bipush 11, 2) := by decide +kernel
theorem dX10_taskRead_46 : decode cX10_taskRead 46 = .ok (.bipush 7, 2) := by decide +kernel
theorem dX10_taskRead_48 : decode cX10_taskRead 48 = .ok (.aload_n 0, 1) := by decide +kernel
theorem dX10_taskRead_49 : decode cX10_taskRead 49 = .ok (.getfield 187, 3) := by decide +kernel
theorem dX10_taskRead_52 : decode cX10_taskRead 52 = .ok (.imul, 1) := by decide +kernel
theorem dX10_taskRead_53 : decode cX10_taskRead 53 = .ok (.iadd, 1) := by decide +kernel
theorem dX10_taskRead_54 : decode cX10_taskRead 54 = .ok (.bipush 6, 2) := by decide +kernel
theorem dX10_taskRead_56 : decode cX10_taskRead 56 = .ok (.iadd, 1) := by decide +kernel
theorem dX10_taskRead_57 : decode cX10_taskRead 57 = .ok (.iaload, 1) := by decide +kernel
theorem dX10_taskRead_58 : decode cX10_taskRead 58 = .ok (.ifCond .ne 8, 3) := by decide +kernel
theorem dX10_taskRead_61 : decode cX10_taskRead 61 = .ok (.aload_n 0, 1) := by decide +kernel
theorem dX10_taskRead_62 : decode cX10_taskRead 62 = .ok (.iconst 2, 1) := by decide +kernel
theorem dX10_taskRead_63 : decode cX10_taskRead 63 = .ok (.invokevirtual 220, 3) := by decide +kernel
theorem dX10_taskRead_66 : decode cX10_taskRead 66 = .ok (.aload_n 0, 1) := by decide +kernel
theorem dX10_taskRead_67 : decode cX10_taskRead 67 = .ok (.iconst 0, 1) := by decide +kernel
theorem dX10_taskRead_68 : decode cX10_taskRead 68 = .ok (.iconst 5, 1) := by decide +kernel
theorem dX10_taskRead_69 : decode cX10_taskRead 69 = .ok (.invokevirtual 228, 3) := by decide +kernel
theorem dX10_taskRead_72 : decode cX10_taskRead 72 = .ok (.ireturn, 1) := by decide +kernel
theorem dX10_readInjection_0 : decode cX10_readInjection 0 = .ok (.aload_n 0, 1) := by decide +kernel
theorem dX10_readInjection_1 : decode cX10_readInjection 1 = .ok (.iconst 5, 1) := by decide +kernel
theorem dX10_readInjection_2 : decode cX10_readInjection 2 = .ok (.bipush 8, 2) := by decide +kernel
theorem dX10_readInjection_4 : decode cX10_readInjection 4 = .ok (.invokevirtual 243, 3) := by decide +kernel
theorem dX10_readInjection_7 : decode cX10_readInjection 7 = .ok (.ifCond .ne 4, 3) := by decide +kernel
theorem dX10_readInjection_10 : decode cX10_readInjection 10 = .ok (.return_, 1) := by decide +kernel
theorem dX10_readInjection_11 : decode cX10_readInjection 11 = .ok (.bipush 106, 2) := by decide +kernel
theorem dX10_readInjection_13 : decode cX10_readInjection 13 = .ok (.iconst 5, 1) := by decide +kernel
theorem dX10_readInjection_14 : decode cX10_readInjection 14 = .ok (.aload_n 0, 1) := by decide +kernel
theorem dX10_readInjection_15 : decode cX10_readInjection 15 = .ok (.getfield 31, 3) := by decide +kernel
theorem dX10_readInjection_18 : decode cX10_readInjection 18 = .ok (.iconst 5, 1) := by decide +kernel
theorem dX10_readInjection_19 : decode cX10_readInjection 19 = .ok (.iaload, 1) := by decide +kernel
theorem dX10_readInjection_20 : decode cX10_readInjection 20 = .ok (.imul, 1) := by decide +kernel
theorem dX10_readInjection_21 : decode cX10_readInjection 21 = .ok (.iadd, 1) := by decide +kernel
theorem dX10_readInjection_22 : decode cX10_readInjection 22 = .ok (.istore_n 2, 1) := by decide +kernel
theorem dX10_readInjection_23 : decode cX10_readInjection 23 = .ok (.aload_n 0, 1) := by decide +kernel
theorem dX10_readInjection_24 : decode cX10_readInjection 24 = .ok (.getfield 31, 3) := by decide +kernel
theorem dX10_readInjection_27 : decode cX10_readInjection 27 = .ok (.iload_n 2, 1) := by decide +kernel
theorem dX10_readInjection_28 : decode cX10_readInjection 28 = .ok (.iload_n 1, 1) := by decide +kernel
theorem dX10_readInjection_29 : decode cX10_readInjection 29 = .ok (.iastore, 1) := by decide +kernel
theorem dX10_readInjection_30 : decode cX10_readInjection 30 = .ok (.aload_n 0, 1) := by decide +kernel
theorem dX10_readInjection_31 : decode cX10_readInjection 31 = .ok (.getfield 31, 3) := by decide +kernel
theorem dX10_readInjection_34 : decode cX10_readInjection 34 = .ok (.iload_n 2, 1) := by decide +kernel
theorem dX10_readInjection_35 : decode cX10_readInjection 35 = .ok (.iconst 3, 1) := by decide +kernel
theorem dX10_readInjection_36 : decode cX10_readInjection 36 = .ok (.iadd, 1) := by decide +kernel
theorem dX10_readInjection_37 : decode cX10_readInjection 37 = .ok (.iconst (-1), 1) := by decide +kernel
theorem dX10_readInjection_38 : decode cX10_readInjection 38 = .ok (.iastore, 1) := by decide +kernel
theorem dX10_readInjection_39 : decode cX10_readInjection 39 = .ok (.aload_n 0, 1) := by decide +kernel
theorem dX10_readInjection_40 : decode cX10_readInjection 40 = .ok (.getfield 31, 3) := by decide +kernel
theorem dX10_readInjection_43 : decode cX10_readInjection 43 = .ok (.iload_n 2, 1) := by decide +kernel
theorem dX10_readInjection_44 : decode cX10_readInjection 44 = .ok (.iconst 4, 1) := by decide +kernel
theorem dX10_readInjection_45 : decode cX10_readInjection 45 = .ok (.iadd, 1) := by decide +kernel
theorem dX10_readInjection_46 : decode cX10_readInjection 46 = .ok (.iconst (-1), 1) := by decide +kernel
theorem dX10_readInjection_47 : decode cX10_readInjection 47 = .ok (.iastore, 1) := by decide +kernel
theorem dX10_readInjection_48 : decode cX10_readInjection 48 = .ok (.iload_n 1, 1) := by decide +kernel
theorem dX10_readInjection_49 : decode cX10_readInjection 49 = .ok (.iconst 5, 1) := by decide +kernel
theorem dX10_readInjection_50 : decode cX10_readInjection 50 = .ok (.if_icmp .ne 46, 3) := by decide +kernel
theorem dX10_readInjection_53 : decode cX10_readInjection 53 = .ok (.aload_n 0, 1) := by decide +kernel
theorem dX10_readInjection_54 : decode cX10_readInjection 54 = .ok (.getfield 31, 3) := by decide +kernel
theorem dX10_readInjection_57 : decode cX10_readInjection 57 = .ok (.iload_n 2, 1) := by decide +kernel
theorem dX10_readInjection_58 : decode cX10_readInjection 58 = .ok (.iconst 1, 1) := by decide +kernel
theorem dX10_readInjection_59 : decode cX10_readInjection 59 = .ok (.iadd, 1) := by decide +kernel
theorem dX10_readInjection_60 : decode cX10_readInjection 60 = .ok (.aload_n 0, 1) := by decide +kernel
theorem dX10_readInjection_61 : decode cX10_readInjection 61 = .ok (.iconst 0, 1) := by decide +kernel
theorem dX10_readInjection_62 : decode cX10_readInjection 62 = .ok (.aload_n 0, 1) := by decide +kernel
theorem dX10_readInjection_63 : decode cX10_readInjection 63 = .ok (.getfield 31, 3) := by decide +kernel
theorem dX10_readInjection_66 : decode cX10_readInjection 66 = .ok (.iconst 3, 1) := by decide +kernel
theorem dX10_readInjection_67 : decode cX10_readInjection 67 = .ok (.iaload, 1) := by decide +kernel
theorem dX10_readInjection_68 : decode cX10_readInjection 68 = .ok (.iconst 1, 1) := by decide +kernel
theorem dX10_readInjection_69 : decode cX10_readInjection 69 = .ok (.isub, 1) := by decide +kernel
theorem dX10_readInjection_70 : decode cX10_readInjection 70 = .ok (.invokevirtual 228, 3) := by decide +kernel
theorem dX10_readInjection_73 : decode cX10_readInjection 73 = .ok (.iastore, 1) := by decide +kernel
theorem dX10_readInjection_74 : decode cX10_readInjection 74 = .ok (.aload_n 0, 1) := by decide +kernel
theorem dX10_readInjection_75 : decode cX10_readInjection 75 = .ok (.getfield 31, 3) := by decide +kernel
theorem dX10_readInjection_78 : decode cX10_readInjection 78 = .ok (.iload_n 2, 1) := by decide +kernel
theorem dX10_readInjection_79 : decode cX10_readInjection 79 = .ok (.iconst 2, 1) := by decide +kernel
theorem dX10_readInjection_80 : decode cX10_readInjection 80 = .ok (.iadd, 1) := by decide +kernel
theorem dX10_readInjection_81 : decode cX10_readInjection 81 = .ok (.aload_n 0, 1) := by decide +kernel
theorem dX10_readInjection_82 : decode cX10_readInjection 82 = .ok (.ldc_w 278, 3) := by decide +kernel
theorem dX10_readInjection_85 : decode cX10_readInjection 85 = .ok (.iconst 0, 1) := by decide +kernel
theorem dX10_readInjection_86 : decode cX10_readInjection 86 = .ok (.sipush 199, 3) := by decide +kernel
theorem dX10_readInjection_89 : decode cX10_readInjection 89 = .ok (.invokevirtual 235, 3) := by decide +kernel
theorem dX10_readInjection_92 : decode cX10_readInjection 92 = .ok (.iastore, 1) := by decide +kernel
theorem dX10_readInjection_93 : decode cX10_readInjection 93 = .ok (.goto 96, 3) := by decide +kernel
theorem dX10_readInjection_96 : decode cX10_readInjection 96 = .ok (.aload_n 0, 1) := by decide +kernel
theorem dX10_readInjection_97 : decode cX10_readInjection 97 = .ok (.getfield 31, 3) := by decide +kernel
theorem dX10_readInjection_100 : decode cX10_readInjection 100 = .ok (.iload_n 2, 1) := by decide +kernel
theorem dX10_readInjection_101 : decode cX10_readInjection 101 = .ok (.iconst 1, 1) := by decide +kernel
theorem dX10_readInjection_102 : decode cX10_readInjection 102 = .ok (.iadd, 1) := by decide +kernel
theorem dX10_readInjection_103 : decode cX10_readInjection 103 = .ok (.aload_n 0, 1) := by decide +kernel
theorem dX10_readInjection_104 : decode cX10_readInjection 104 = .ok (.invokevirtual 280, 3) := by decide +kernel
theorem dX10_readInjection_107 : decode cX10_readInjection 107 = .ok (.iastore, 1) := by decide +kernel
theorem dX10_readInjection_108 : decode cX10_readInjection 108 = .ok (.aload_n 0, 1) := by decide +kernel
theorem dX10_readInjection_109 : decode cX10_readInjection 109 = .ok (.getfield 31, 3) := by decide +kernel
theorem dX10_readInjection_112 : decode cX10_readInjection 112 = .ok (.iload_n 2, 1) := by decide +kernel
theorem dX10_readInjection_113 : decode cX10_readInjection 113 = .ok (.iconst 2, 1) := by decide +kernel
theorem dX10_readInjection_114 : decode cX10_readInjection 114 = .ok (.iadd, 1) := by decide +kernel
theorem dX10_readInjection_115 : decode cX10_readInjection 115 = .ok (.aload_n 0, 1) := by decide +kernel
theorem dX10_readInjection_116 : decode cX10_readInjection 116 = .ok (.ldc_w 283, 3) := by decide +kernel
theorem dX10_readInjection_119 : decode cX10_readInjection 119 = .ok (.iconst 0, 1) := by decide +kernel
theorem dX10_readInjection_120 : decode cX10_readInjection 120 = .ok (.bipush 50, 2) := by decide +kernel
theorem dX10_readInjection_122 : decode cX10_readInjection 122 = .ok (.invokevirtual 235, 3) := by decide +kernel
theorem dX10_readInjection_125 : decode cX10_readInjection 125 = .ok (.iastore, 1) := by decide +kernel
theorem dX10_readInjection_126 : decode cX10_readInjection 126 = .ok (.iload_n 1, 1) := by decide +kernel
theorem dX10_readInjection_127 : decode cX10_readInjection 127 = .ok (.iconst 4, 1) := by decide +kernel
theorem dX10_readInjection_128 : decode cX10_readInjection 128 = .ok (.if_icmp .eq 43, 3) := by decide +kernel
theorem dX10_readInjection_131 : decode cX10_readInjection 131 = .ok (.aload_n 0, 1) := by decide +kernel
theorem dX10_readInjection_132 : decode cX10_readInjection 132 = .ok (.getfield 31, 3) := by decide +kernel
theorem dX10_readInjection_135 : decode cX10_readInjection 135 = .ok (.iload_n 2, 1) := by decide +kernel
theorem dX10_readInjection_136 : decode cX10_readInjection 136 = .ok (.iconst 3, 1) := by decide +kernel
theorem dX10_readInjection_137 : decode cX10_readInjection 137 = .ok (.iadd, 1) := by decide +kernel
theorem dX10_readInjection_138 : decode cX10_readInjection 138 = .ok (.aload_n 0, 1) := by decide +kernel
theorem dX10_readInjection_139 : decode cX10_readInjection 139 = .ok (.ldc_w 284, 3) := by decide +kernel
theorem dX10_readInjection_142 : decode cX10_readInjection 142 = .ok (.iconst 0, 1) := by decide +kernel
theorem dX10_readInjection_143 : decode cX10_readInjection 143 = .ok (.aload_n 0, 1) := by decide +kernel
theorem dX10_readInjection_144 : decode cX10_readInjection 144 = .ok (.getfield 31, 3) := by decide +kernel
theorem dX10_readInjection_147 : decode cX10_readInjection 147 = .ok (.bipush 11, 2) := by decide +kernel
theorem dX10_readInjection_149 : decode cX10_readInjection 149 = .ok (.bipush 7, 2) := by decide +kernel
theorem dX10_readInjection_151 : decode cX10_readInjection 151 = .ok (.aload_n 0, 1) := by decide +kernel
theorem dX10_readInjection_152 : decode cX10_readInjection 152 = .ok (.getfield 31, 3) := by decide +kernel
theorem dX10_readInjection_155 : decode cX10_readInjection 155 = .ok (.iload_n 2, 1) := by decide +kernel
theorem dX10_readInjection_156 : decode cX10_readInjection 156 = .ok (.iconst 1, 1) := by decide +kernel
theorem dX10_readInjection_157 : decode cX10_readInjection 157 = .ok (.iadd, 1) := by decide +kernel
theorem dX10_readInjection_158 : decode cX10_readInjection 158 = .ok (.iaload, 1) := by decide +kernel
theorem dX10_readInjection_159 : decode cX10_readInjection 159 = .ok (.imul, 1) := by decide +kernel
theorem dX10_readInjection_160 : decode cX10_readInjection 160 = .ok (.iadd, 1) := by decide +kernel
theorem dX10_readInjection_161 : decode cX10_readInjection 161 = .ok (.bipush 6, 2) := by decide +kernel
theorem dX10_readInjection_163 : decode cX10_readInjection 163 = .ok (.iadd, 1) := by decide +kernel
theorem dX10_readInjection_164 : decode cX10_readInjection 164 = .ok (.iaload, 1) := by decide +kernel
theorem dX10_readInjection_165 : decode cX10_readInjection 165 = .ok (.iconst 1, 1) := by decide +kernel
theorem dX10_readInjection_166 : decode cX10_readInjection 166 = .ok (.isub, 1) := by decide +kernel
theorem dX10_readInjection_167 : decode cX10_readInjection 167 = .ok (.invokevirtual 235, 3) := by decide +kernel
theorem dX10_readInjection_170 : decode cX10_readInjection 170 = .ok (.iastore, 1) := by decide +kernel
theorem dX10_readInjection_171 : decode cX10_readInjection 171 = .ok (.aload_n 0, 1) := by decide +kernel
theorem dX10_readInjection_172 : decode cX10_readInjection 172 = .ok (.getfield 31, 3) := by decide +kernel
theorem dX10_readInjection_175 : decode cX10_readInjection 175 = .ok (.iload_n 2, 1) := by decide +kernel
theorem dX10_readInjection_176 : decode cX10_readInjection 176 = .ok (.iconst 4, 1) := by decide +kernel
theorem dX10_readInjection_177 : decode cX10_readInjection 177 = .ok (.iadd, 1) := by decide +kernel
theorem dX10_readInjection_178 : decode cX10_readInjection 178 = .ok (.aload_n 0, 1) := by decide +kernel
theorem dX10_readInjection_179 : decode cX10_readInjection 179 = .ok (.ldc_w 286, 3) := by decide +kernel
theorem dX10_readInjection_182 : decode cX10_readInjection 182 = .ok (.iconst 1, 1) := by decide +kernel
theorem dX10_readInjection_183 : decode cX10_readInjection 183 = .ok (.bipush 9, 2) := by decide +kernel
theorem dX10_readInjection_185 : decode cX10_readInjection 185 = .ok (.invokevirtual 235, 3) := by decide +kernel
theorem dX10_readInjection_188 : decode cX10_readInjection 188 = .ok (.iastore, 1) := by decide +kernel
theorem dX10_readInjection_189 : decode cX10_readInjection 189 = .ok (.aload_n 0, 1) := by decide +kernel
theorem dX10_readInjection_190 : decode cX10_readInjection 190 = .ok (.getfield 31, 3) := by decide +kernel
theorem dX10_readInjection_193 : decode cX10_readInjection 193 = .ok (.iconst 5, 1) := by decide +kernel
theorem dX10_readInjection_194 : decode cX10_readInjection 194 = .ok (.dup2, 1) := by decide +kernel
theorem dX10_readInjection_195 : decode cX10_readInjection 195 = .ok (.iaload, 1) := by decide +kernel
theorem dX10_readInjection_196 : decode cX10_readInjection 196 = .ok (.iconst 1, 1) := by decide +kernel
theorem dX10_readInjection_197 : decode cX10_readInjection 197 = .ok (.iadd, 1) := by decide +kernel
theorem dX10_readInjection_198 : decode cX10_readInjection 198 = .ok (.iastore, 1) := by decide +kernel
theorem dX10_readInjection_199 : decode cX10_readInjection 199 = .ok (.return_, 1) := by decide +kernel
theorem dX10_kindRead_0 : decode cX10_kindRead 0 = .ok (.iconst 0, 1) := by decide +kernel
theorem dX10_kindRead_1 : decode cX10_kindRead 1 = .ok (.istore_n 1, 1) := by decide +kernel
theorem dX10_kindRead_2 : decode cX10_kindRead 2 = .ok (.iload_n 1, 1) := by decide +kernel
theorem dX10_kindRead_3 : decode cX10_kindRead 3 = .ok (.iconst 5, 1) := by decide +kernel
theorem dX10_kindRead_4 : decode cX10_kindRead 4 = .ok (.if_icmp .gt 22, 3) := by decide +kernel
theorem dX10_kindRead_7 : decode cX10_kindRead 7 = .ok (.aload_n 0, 1) := by decide +kernel
theorem dX10_kindRead_8 : decode cX10_kindRead 8 = .ok (.iload_n 1, 1) := by decide +kernel
theorem dX10_kindRead_9 : decode cX10_kindRead 9 = .ok (.invokestatic 288, 3) := by decide +kernel
theorem dX10_kindRead_12 : decode cX10_kindRead 12 = .ok (.invokevirtual 213, 3) := by decide +kernel
theorem dX10_kindRead_15 : decode cX10_kindRead 15 = .ok (.ifCond .eq 5, 3) := by decide +kernel
theorem dX10_kindRead_18 : decode cX10_kindRead 18 = .ok (.iload_n 1, 1) := by decide +kernel
theorem dX10_kindRead_19 : decode cX10_kindRead 19 = .ok (.ireturn, 1) := by decide +kernel
theorem dX10_kindRead_20 : decode cX10_kindRead 20 = .ok (.iinc 1 1, 3) := by decide +kernel
theorem dX10_kindRead_23 : decode cX10_kindRead 23 = .ok (.goto (-21), 3) := by decide +kernel
theorem dX10_kindRead_26 : decode cX10_kindRead 26 = .ok (.iconst (-1), 1) := by decide +kernel
theorem dX10_kindRead_27 : decode cX10_kindRead 27 = .ok (.ireturn, 1) := by decide +kernel
theorem dX10_readText_0 : decode cX10_readText 0 = .ok (.aload_n 0, 1) := by decide +kernel
theorem dX10_readText_1 : decode cX10_readText 1 = .ok (.invokevirtual 292, 3) := by decide +kernel
theorem dX10_readText_4 : decode cX10_readText 4 = .ok (.istore_n 1, 1) := by decide +kernel
theorem dX10_readText_5 : decode cX10_readText 5 = .ok (.aload_n 0, 1) := by decide +kernel
theorem dX10_readText_6 : decode cX10_readText 6 = .ok (.getfield 31, 3) := by decide +kernel
theorem dX10_readText_9 : decode cX10_readText 9 = .ok (.bipush 7, 2) := by decide +kernel
theorem dX10_readText_11 : decode cX10_readText 11 = .ok (.iaload, 1) := by decide +kernel
theorem dX10_readText_12 : decode cX10_readText 12 = .ok (.ifCond .ne 10, 3) := by decide +kernel
theorem dX10_readText_15 : decode cX10_readText 15 = .ok (.aload_n 0, 1) := by decide +kernel
theorem dX10_readText_16 : decode cX10_readText 16 = .ok (.invokevirtual 295, 3) := by decide +kernel
theorem dX10_readText_19 : decode cX10_readText 19 = .ok (.goto 72, 3) := by decide +kernel
theorem dX10_readText_22 : decode cX10_readText 22 = .ok (.aload_n 0, 1) := by decide +kernel
theorem dX10_readText_23 : decode cX10_readText 23 = .ok (.ldc_w 298, 3) := by decide +kernel
theorem dX10_readText_26 : decode cX10_readText 26 = .ok (.invokevirtual 213, 3) := by decide +kernel
theorem dX10_readText_29 : decode cX10_readText 29 = .ok (.ifCond .eq 10, 3) := by decide +kernel
theorem dX10_readText_32 : decode cX10_readText 32 = .ok (.aload_n 0, 1) := by decide +kernel
theorem dX10_readText_33 : decode cX10_readText 33 = .ok (.invokevirtual 300, 3) := by decide +kernel
theorem dX10_readText_36 : decode cX10_readText 36 = .ok (.goto 55, 3) := by decide +kernel
theorem dX10_readText_39 : decode cX10_readText 39 = .ok (.aload_n 0, 1) := by decide +kernel
theorem dX10_readText_40 : decode cX10_readText 40 = .ok (.ldc_w 303, 3) := by decide +kernel
theorem dX10_readText_43 : decode cX10_readText 43 = .ok (.invokevirtual 213, 3) := by decide +kernel
theorem dX10_readText_46 : decode cX10_readText 46 = .ok (.ifCond .eq 10, 3) := by decide +kernel
theorem dX10_readText_49 : decode cX10_readText 49 = .ok (.aload_n 0, 1) := by decide +kernel
theorem dX10_readText_50 : decode cX10_readText 50 = .ok (.invokevirtual 305, 3) := by decide +kernel
theorem dX10_readText_53 : decode cX10_readText 53 = .ok (.goto 38, 3) := by decide +kernel
theorem dX10_readText_56 : decode cX10_readText 56 = .ok (.aload_n 0, 1) := by decide +kernel
theorem dX10_readText_57 : decode cX10_readText 57 = .ok (.ldc_w 284, 3) := by decide +kernel
theorem dX10_readText_60 : decode cX10_readText 60 = .ok (.invokevirtual 213, 3) := by decide +kernel
theorem dX10_readText_63 : decode cX10_readText 63 = .ok (.ifCond .eq 10, 3) := by decide +kernel
theorem dX10_readText_66 : decode cX10_readText 66 = .ok (.aload_n 0, 1) := by decide +kernel
theorem dX10_readText_67 : decode cX10_readText 67 = .ok (.invokevirtual 308, 3) := by decide +kernel
theorem dX10_readText_70 : decode cX10_readText 70 = .ok (.goto 21, 3) := by decide +kernel
theorem dX10_readText_73 : decode cX10_readText 73 = .ok (.iload_n 1, 1) := by decide +kernel
theorem dX10_readText_74 : decode cX10_readText 74 = .ok (.iconst (-1), 1) := by decide +kernel
theorem dX10_readText_75 : decode cX10_readText 75 = .ok (.if_icmp .eq 11, 3) := by decide +kernel
theorem dX10_readText_78 : decode cX10_readText 78 = .ok (.aload_n 0, 1) := by decide +kernel
theorem dX10_readText_79 : decode cX10_readText 79 = .ok (.iload_n 1, 1) := by decide +kernel
theorem dX10_readText_80 : decode cX10_readText 80 = .ok (.invokevirtual 311, 3) := by decide +kernel
theorem dX10_readText_83 : decode cX10_readText 83 = .ok (.goto 8, 3) := by decide +kernel
theorem dX10_readText_86 : decode cX10_readText 86 = .ok (.aload_n 0, 1) := by decide +kernel
theorem dX10_readText_87 : decode cX10_readText 87 = .ok (.iconst 1, 1) := by decide +kernel
theorem dX10_readText_88 : decode cX10_readText 88 = .ok (.invokevirtual 220, 3) := by decide +kernel
theorem dX10_readText_91 : decode cX10_readText 91 = .ok (.aload_n 0, 1) := by decide +kernel
theorem dX10_readText_92 : decode cX10_readText 92 = .ok (.invokevirtual 199, 3) := by decide +kernel
theorem dX10_readText_95 : decode cX10_readText 95 = .ok (.ifCond .eq 16, 3) := by decide +kernel
theorem dX10_readText_98 : decode cX10_readText 98 = .ok (.aload_n 0, 1) := by decide +kernel
theorem dX10_readText_99 : decode cX10_readText 99 = .ok (.getfield 176, 3) := by decide +kernel
theorem dX10_readText_102 : decode cX10_readText 102 = .ok (.iconst 3, 1) := by decide +kernel
theorem dX10_readText_103 : decode cX10_readText 103 = .ok (.if_icmp .eq 8, 3) := by decide +kernel
theorem dX10_readText_106 : decode cX10_readText 106 = .ok (.aload_n 0, 1) := by decide +kernel
theorem dX10_readText_107 : decode cX10_readText 107 = .ok (.iconst 1, 1) := by decide +kernel
theorem dX10_readText_108 : decode cX10_readText 108 = .ok (.invokevirtual 220, 3) := by decide +kernel
theorem dX10_readText_111 : decode cX10_readText 111 = .ok (.aload_n 0, 1) := by decide +kernel
theorem dX10_readText_112 : decode cX10_readText 112 = .ok (.invokevirtual 199, 3) := by decide +kernel
theorem dX10_readText_115 : decode cX10_readText 115 = .ok (.ifCond .eq 7, 3) := by decide +kernel
theorem dX10_readText_118 : decode cX10_readText 118 = .ok (.aload_n 0, 1) := by decide +kernel
theorem dX10_readText_119 : decode cX10_readText 119 = .ok (.invokevirtual 217, 3) := by decide +kernel
theorem dX10_readText_122 : decode cX10_readText 122 = .ok (.aload_n 0, 1) := by decide +kernel
theorem dX10_readText_123 : decode cX10_readText 123 = .ok (.getfield 31, 3) := by decide +kernel
theorem dX10_readText_126 : decode cX10_readText 126 = .ok (.bipush 7, 2) := by decide +kernel
theorem dX10_readText_128 : decode cX10_readText 128 = .ok (.dup2, 1) := by decide +kernel
theorem dX10_readText_129 : decode cX10_readText 129 = .ok (.iaload, 1) := by decide +kernel
theorem dX10_readText_130 : decode cX10_readText 130 = .ok (.iconst 1, 1) := by decide +kernel
theorem dX10_readText_131 : decode cX10_readText 131 = .ok (.iadd, 1) := by decide +kernel
theorem dX10_readText_132 : decode cX10_readText 132 = .ok (.iastore, 1) := by decide +kernel
theorem dX10_readText_133 : decode cX10_readText 133 = .ok (.return_, 1) := by decide +kernel
theorem dX10_board_0 : decode cX10_board 0 = .ok (.aload_n 0, 1) := by decide +kernel
theorem dX10_board_1 : decode cX10_board 1 = .ok (.aload_n 0, 1) := by decide +kernel
theorem dX10_board_2 : decode cX10_board 2 = .ok (.getfield 160, 3) := by decide +kernel
theorem dX10_board_5 : decode cX10_board 5 = .ok (.putfield 163, 3) := by decide +kernel
theorem dX10_board_8 : decode cX10_board 8 = .ok (.aload_n 0, 1) := by decide +kernel
theorem dX10_board_9 : decode cX10_board 9 = .ok (.iconst 0, 1) := by decide +kernel
theorem dX10_board_10 : decode cX10_board 10 = .ok (.putfield 160, 3) := by decide +kernel
theorem dX10_board_13 : decode cX10_board 13 = .ok (.aload_n 0, 1) := by decide +kernel
theorem dX10_board_14 : decode cX10_board 14 = .ok (.iconst 0, 1) := by decide +kernel
theorem dX10_board_15 : decode cX10_board 15 = .ok (.putfield 166, 3) := by decide +kernel
theorem dX10_board_18 : decode cX10_board 18 = .ok (.aload_n 0, 1) := by decide +kernel
theorem dX10_board_19 : decode cX10_board 19 = .ok (.iconst 0, 1) := by decide +kernel
theorem dX10_board_20 : decode cX10_board 20 = .ok (.putfield 196, 3) := by decide +kernel
theorem dX10_board_23 : decode cX10_board 23 = .ok (.aload_n 0, 1) := by decide +kernel
theorem dX10_board_24 : decode cX10_board 24 = .ok (.iconst (-1), 1) := by decide +kernel
theorem dX10_board_25 : decode cX10_board 25 = .ok (.putfield 27, 3) := by decide +kernel
theorem dX10_board_28 : decode cX10_board 28 = .ok (.iconst 0, 1) := by decide +kernel
theorem dX10_board_29 : decode cX10_board 29 = .ok (.istore_n 1, 1) := by decide +kernel
theorem dX10_board_30 : decode cX10_board 30 = .ok (.iload_n 1, 1) := by decide +kernel
theorem dX10_board_31 : decode cX10_board 31 = .ok (.sipush 201, 3) := by decide +kernel
theorem dX10_board_34 : decode cX10_board 34 = .ok (.if_icmp .ge 16, 3) := by decide +kernel
theorem dX10_board_37 : decode cX10_board 37 = .ok (.aload_n 0, 1) := by decide +kernel
theorem dX10_board_38 : decode cX10_board 38 = .ok (.getfield 31, 3) := by decide +kernel
theorem dX10_board_41 : decode cX10_board 41 = .ok (.iload_n 1, 1) := by decide +kernel
theorem dX10_board_42 : decode cX10_board 42 = .ok (.iconst 0, 1) := by decide +kernel
theorem dX10_board_43 : decode cX10_board 43 = .ok (.iastore, 1) := by decide +kernel
theorem dX10_board_44 : decode cX10_board 44 = .ok (.iinc 1 1, 3) := by decide +kernel
theorem dX10_board_47 : decode cX10_board 47 = .ok (.goto (-17), 3) := by decide +kernel
theorem dX10_board_50 : decode cX10_board 50 = .ok (.aload_n 0, 1) := by decide +kernel
theorem dX10_board_51 : decode cX10_board 51 = .ok (.invokevirtual 217, 3) := by decide +kernel
theorem dX10_board_54 : decode cX10_board 54 = .ok (.aload_n 0, 1) := by decide +kernel
theorem dX10_board_55 : decode cX10_board 55 = .ok (.invokevirtual 199, 3) := by decide +kernel
theorem dX10_board_58 : decode cX10_board 58 = .ok (.ifCond .eq 17, 3) := by decide +kernel
theorem dX10_board_61 : decode cX10_board 61 = .ok (.aload_n 0, 1) := by decide +kernel
theorem dX10_board_62 : decode cX10_board 62 = .ok (.getfield 176, 3) := by decide +kernel
theorem dX10_board_65 : decode cX10_board 65 = .ok (.ifCond .eq 10, 3) := by decide +kernel
theorem dX10_board_68 : decode cX10_board 68 = .ok (.aload_n 0, 1) := by decide +kernel
theorem dX10_board_69 : decode cX10_board 69 = .ok (.invokevirtual 314, 3) := by decide +kernel
theorem dX10_board_72 : decode cX10_board 72 = .ok (.goto (-18), 3) := by decide +kernel
theorem dX10_board_75 : decode cX10_board 75 = .ok (.iconst 0, 1) := by decide +kernel
theorem dX10_board_76 : decode cX10_board 76 = .ok (.istore_n 1, 1) := by decide +kernel
theorem dX10_board_77 : decode cX10_board 77 = .ok (.iload_n 1, 1) := by decide +kernel
theorem dX10_board_78 : decode cX10_board 78 = .ok (.aload_n 0, 1) := by decide +kernel
theorem dX10_board_79 : decode cX10_board 79 = .ok (.getfield 31, 3) := by decide +kernel
theorem dX10_board_82 : decode cX10_board 82 = .ok (.iconst 4, 1) := by decide +kernel
theorem dX10_board_83 : decode cX10_board 83 = .ok (.iaload, 1) := by decide +kernel
theorem dX10_board_84 : decode cX10_board 84 = .ok (.if_icmp .ge 47, 3) := by decide +kernel
theorem dX10_board_87 : decode cX10_board 87 = .ok (.aload_n 0, 1) := by decide +kernel
theorem dX10_board_88 : decode cX10_board 88 = .ok (.invokevirtual 199, 3) := by decide +kernel
theorem dX10_board_91 : decode cX10_board 91 = .ok (.ifCond .eq 40, 3) := by decide +kernel
theorem dX10_board_94 : decode cX10_board 94 = .ok (.aload_n 0, 1) := by decide +kernel
theorem dX10_board_95 : decode cX10_board 95 = .ok (.getfield 31, 3) := by decide +kernel
theorem dX10_board_98 : decode cX10_board 98 = .ok (.bipush 11, 2) := by decide +kernel
theorem dX10_board_100 : decode cX10_board 100 = .ok (.bipush 7, 2) := by decide +kernel
theorem dX10_board_102 : decode cX10_board 102 = .ok (.iload_n 1, 1) := by decide +kernel
theorem dX10_board_103 : decode cX10_board 103 = .ok (.imul, 1) := by decide +kernel
theorem dX10_board_104 : decode cX10_board 104 = .ok (.iadd, 1) := by decide +kernel
theorem dX10_board_105 : decode cX10_board 105 = .ok (.bipush 6, 2) := by decide +kernel
theorem dX10_board_107 : decode cX10_board 107 = .ok (.iadd, 1) := by decide +kernel
theorem dX10_board_108 : decode cX10_board 108 = .ok (.iaload, 1) := by decide +kernel
theorem dX10_board_109 : decode cX10_board 109 = .ok (.ifCond .le 6, 3) := by decide +kernel
theorem dX10_board_112 : decode cX10_board 112 = .ok (.goto 13, 3) := by decide +kernel
theorem dX10_board_115 : decode cX10_board 115 = .ok (.aload_n 0, 1) := by decide +kernel
theorem dX10_board_116 : decode cX10_board 116 = .ok (.iconst 4, 1) := by decide +kernel
theorem dX10_board_117 : decode cX10_board 117 = .ok (.putfield 196, 3) := by decide +kernel
theorem dX10_board_120 : decode cX10_board 120 = .ok (.aload_n 0, 1) := by decide +kernel
theorem dX10_board_121 : decode cX10_board 121 = .ok (.iload_n 1, 1) := by decide +kernel
theorem dX10_board_122 : decode cX10_board 122 = .ok (.putfield 27, 3) := by decide +kernel
theorem dX10_board_125 : decode cX10_board 125 = .ok (.iinc 1 1, 3) := by decide +kernel
theorem dX10_board_128 : decode cX10_board 128 = .ok (.goto (-51), 3) := by decide +kernel
theorem dX10_board_131 : decode cX10_board 131 = .ok (.aload_n 0, 1) := by decide +kernel
theorem dX10_board_132 : decode cX10_board 132 = .ok (.invokevirtual 199, 3) := by decide +kernel
theorem dX10_board_135 : decode cX10_board 135 = .ok (.ifCond .ne 6, 3) := by decide +kernel
theorem dX10_board_138 : decode cX10_board 138 = .ok (.bipush (-4), 2) := by decide +kernel
theorem dX10_board_140 : decode cX10_board 140 = .ok (.ireturn, 1) := by decide +kernel
theorem dX10_board_141 : decode cX10_board 141 = .ok (.iconst 0, 1) := by decide +kernel
theorem dX10_board_142 : decode cX10_board 142 = .ok (.istore_n 1, 1) := by decide +kernel
theorem dX10_board_143 : decode cX10_board 143 = .ok (.iload_n 1, 1) := by decide +kernel
theorem dX10_board_144 : decode cX10_board 144 = .ok (.sipush 201, 3) := by decide +kernel
theorem dX10_board_147 : decode cX10_board 147 = .ok (.if_icmp .ge 21, 3) := by decide +kernel
theorem dX10_board_150 : decode cX10_board 150 = .ok (.aload_n 0, 1) := by decide +kernel
theorem dX10_board_151 : decode cX10_board 151 = .ok (.getfield 9, 3) := by decide +kernel
theorem dX10_board_154 : decode cX10_board 154 = .ok (.iload_n 1, 1) := by decide +kernel
theorem dX10_board_155 : decode cX10_board 155 = .ok (.aload_n 0, 1) := by decide +kernel
theorem dX10_board_156 : decode cX10_board 156 = .ok (.getfield 31, 3) := by decide +kernel
theorem dX10_board_159 : decode cX10_board 159 = .ok (.iload_n 1, 1) := by decide +kernel
theorem dX10_board_160 : decode cX10_board 160 = .ok (.iaload, 1) := by decide +kernel
theorem dX10_board_161 : decode cX10_board 161 = .ok (.iastore, 1) := by decide +kernel
theorem dX10_board_162 : decode cX10_board 162 = .ok (.iinc 1 1, 3) := by decide +kernel
theorem dX10_board_165 : decode cX10_board 165 = .ok (.goto (-22), 3) := by decide +kernel
theorem dX10_board_168 : decode cX10_board 168 = .ok (.aload_n 0, 1) := by decide +kernel
theorem dX10_board_169 : decode cX10_board 169 = .ok (.getfield 9, 3) := by decide +kernel
theorem dX10_board_172 : decode cX10_board 172 = .ok (.bipush 7, 2) := by decide +kernel
theorem dX10_board_174 : decode cX10_board 174 = .ok (.iaload, 1) := by decide +kernel
theorem dX10_board_175 : decode cX10_board 175 = .ok (.ireturn, 1) := by decide +kernel
theorem dX10_followers_0 : decode cX10_followers 0 = .ok (.iconst 0, 1) := by decide +kernel
theorem dX10_followers_1 : decode cX10_followers 1 = .ok (.istore_n 3, 1) := by decide +kernel
theorem dX10_followers_2 : decode cX10_followers 2 = .ok (.iload_n 2, 1) := by decide +kernel
theorem dX10_followers_3 : decode cX10_followers 3 = .ok (.iconst 1, 1) := by decide +kernel
theorem dX10_followers_4 : decode cX10_followers 4 = .ok (.iadd, 1) := by decide +kernel
theorem dX10_followers_5 : decode cX10_followers 5 = .ok (.istore 4, 2) := by decide +kernel
theorem dX10_followers_7 : decode cX10_followers 7 = .ok (.iload 4, 2) := by decide +kernel
theorem dX10_followers_9 : decode cX10_followers 9 = .ok (.aload_n 0, 1) := by decide +kernel
theorem dX10_followers_10 : decode cX10_followers 10 = .ok (.iload_n 1, 1) := by decide +kernel
theorem dX10_followers_11 : decode cX10_followers 11 = .ok (.invokevirtual 317, 3) := by decide +kernel
theorem dX10_followers_14 : decode cX10_followers 14 = .ok (.if_icmp .ge 28, 3) := by decide +kernel
theorem dX10_followers_17 : decode cX10_followers 17 = .ok (.iload_n 3, 1) := by decide +kernel
theorem dX10_followers_18 : decode cX10_followers 18 = .ok (.aload_n 0, 1) := by decide +kernel
theorem dX10_followers_19 : decode cX10_followers 19 = .ok (.iload_n 1, 1) := by decide +kernel
theorem dX10_followers_20 : decode cX10_followers 20 = .ok (.iload 4, 2) := by decide +kernel
theorem dX10_followers_22 : decode cX10_followers 22 = .ok (.iload_n 2, 1) := by decide +kernel
theorem dX10_followers_23 : decode cX10_followers 23 = .ok (.invokevirtual 320, 3) := by decide +kernel
theorem dX10_followers_26 : decode cX10_followers 26 = .ok (.ifCond .eq 7, 3) := by decide +kernel
theorem dX10_followers_29 : decode cX10_followers 29 = .ok (.iconst 1, 1) := by decide +kernel
theorem dX10_followers_30 : decode cX10_followers 30 = .ok (.goto 4, 3) := by decide +kernel
theorem dX10_followers_33 : decode cX10_followers 33 = .ok (.iconst 0, 1) := by decide +kernel
theorem dX10_followers_34 : decode cX10_followers 34 = .ok (.iadd, 1) := by decide +kernel
theorem dX10_followers_35 : decode cX10_followers 35 = .ok (.istore_n 3, 1) := by decide +kernel
theorem dX10_followers_36 : decode cX10_followers 36 = .ok (.iinc 4 1, 3) := by decide +kernel
theorem dX10_followers_39 : decode cX10_followers 39 = .ok (.goto (-32), 3) := by decide +kernel
theorem dX10_followers_42 : decode cX10_followers 42 = .ok (.iload_n 3, 1) := by decide +kernel
theorem dX10_followers_43 : decode cX10_followers 43 = .ok (.ireturn, 1) := by decide +kernel
theorem dX10_follower_0 : decode cX10_follower 0 = .ok (.iload_n 3, 1) := by decide +kernel
theorem dX10_follower_1 : decode cX10_follower 1 = .ok (.istore 4, 2) := by decide +kernel
theorem dX10_follower_3 : decode cX10_follower 3 = .ok (.iload_n 2, 1) := by decide +kernel
theorem dX10_follower_4 : decode cX10_follower 4 = .ok (.iconst 1, 1) := by decide +kernel
theorem dX10_follower_5 : decode cX10_follower 5 = .ok (.iadd, 1) := by decide +kernel
theorem dX10_follower_6 : decode cX10_follower 6 = .ok (.istore 5, 2) := by decide +kernel
theorem dX10_follower_8 : decode cX10_follower 8 = .ok (.aload_n 0, 1) := by decide +kernel
theorem dX10_follower_9 : decode cX10_follower 9 = .ok (.iload_n 1, 1) := by decide +kernel
theorem dX10_follower_10 : decode cX10_follower 10 = .ok (.iload 5, 2) := by decide +kernel
theorem dX10_follower_12 : decode cX10_follower 12 = .ok (.iload_n 2, 1) := by decide +kernel
theorem dX10_follower_13 : decode cX10_follower 13 = .ok (.invokevirtual 320, 3) := by decide +kernel
theorem dX10_follower_16 : decode cX10_follower 16 = .ok (.ifCond .eq 8, 3) := by decide +kernel
theorem dX10_follower_19 : decode cX10_follower 19 = .ok (.iload 4, 2) := by decide +kernel
theorem dX10_follower_21 : decode cX10_follower 21 = .ok (.ifCond .le 30, 3) := by decide +kernel
theorem dX10_follower_24 : decode cX10_follower 24 = .ok (.iload 4, 2) := by decide +kernel
theorem dX10_follower_26 : decode cX10_follower 26 = .ok (.aload_n 0, 1) := by decide +kernel
theorem dX10_follower_27 : decode cX10_follower 27 = .ok (.iload_n 1, 1) := by decide +kernel
theorem dX10_follower_28 : decode cX10_follower 28 = .ok (.iload 5, 2) := by decide +kernel
theorem dX10_follower_30 : decode cX10_follower 30 = .ok (.iload_n 2, 1) := by decide +kernel
theorem dX10_follower_31 : decode cX10_follower 31 = .ok (.invokevirtual 320, 3) := by decide +kernel
theorem dX10_follower_34 : decode cX10_follower 34 = .ok (.ifCond .eq 7, 3) := by decide +kernel
theorem dX10_follower_37 : decode cX10_follower 37 = .ok (.iconst 1, 1) := by decide +kernel
theorem dX10_follower_38 : decode cX10_follower 38 = .ok (.goto 4, 3) := by decide +kernel
theorem dX10_follower_41 : decode cX10_follower 41 = .ok (.iconst 0, 1) := by decide +kernel
theorem dX10_follower_42 : decode cX10_follower 42 = .ok (.isub, 1) := by decide +kernel
theorem dX10_follower_43 : decode cX10_follower 43 = .ok (.istore 4, 2) := by decide +kernel
theorem dX10_follower_45 : decode cX10_follower 45 = .ok (.iinc 5 1, 3) := by decide +kernel
theorem dX10_follower_48 : decode cX10_follower 48 = .ok (.goto (-40), 3) := by decide +kernel
theorem dX10_follower_51 : decode cX10_follower 51 = .ok (.iload 5, 2) := by decide +kernel
theorem dX10_follower_53 : decode cX10_follower 53 = .ok (.ireturn, 1) := by decide +kernel
theorem dX10_goes_0 : decode cX10_goes 0 = .ok (.aload_n 0, 1) := by decide +kernel
theorem dX10_goes_1 : decode cX10_goes 1 = .ok (.iload_n 1, 1) := by decide +kernel
theorem dX10_goes_2 : decode cX10_goes 2 = .ok (.invokevirtual 317, 3) := by decide +kernel
theorem dX10_goes_5 : decode cX10_goes 5 = .ok (.iconst 1, 1) := by decide +kernel
theorem dX10_goes_6 : decode cX10_goes 6 = .ok (.isub, 1) := by decide +kernel
theorem dX10_goes_7 : decode cX10_goes 7 = .ok (.istore_n 3, 1) := by decide +kernel
theorem dX10_goes_8 : decode cX10_goes 8 = .ok (.iload_n 3, 1) := by decide +kernel
theorem dX10_goes_9 : decode cX10_goes 9 = .ok (.ifCond .lt 165, 3) := by decide +kernel
theorem dX10_goes_12 : decode cX10_goes 12 = .ok (.aload_n 0, 1) := by decide +kernel
theorem dX10_goes_13 : decode cX10_goes 13 = .ok (.iload_n 1, 1) := by decide +kernel
theorem dX10_goes_14 : decode cX10_goes 14 = .ok (.iload_n 3, 1) := by decide +kernel
theorem dX10_goes_15 : decode cX10_goes 15 = .ok (.invokevirtual 324, 3) := by decide +kernel
theorem dX10_goes_18 : decode cX10_goes 18 = .ok (.ifCond .ne 12, 3) := by decide +kernel
theorem dX10_goes_21 : decode cX10_goes 21 = .ok (.iload_n 2, 1) := by decide +kernel
theorem dX10_goes_22 : decode cX10_goes 22 = .ok (.iconst 2, 1) := by decide +kernel
theorem dX10_goes_23 : decode cX10_goes 23 = .ok (.if_icmp .ne 7, 3) := by decide +kernel
theorem dX10_goes_26 : decode cX10_goes 26 = .ok (.iconst 1, 1) := by decide +kernel
theorem dX10_goes_27 : decode cX10_goes 27 = .ok (.goto 4, 3) := by decide +kernel
theorem dX10_goes_30 : decode cX10_goes 30 = .ok (.iconst 0, 1) := by decide +kernel
theorem dX10_goes_31 : decode cX10_goes 31 = .ok (.istore 4, 2) := by decide +kernel
theorem dX10_goes_33 : decode cX10_goes 33 = .ok (.iconst 1, 1) := by decide +kernel
theorem dX10_goes_34 : decode cX10_goes 34 = .ok (.istore 5, 2) := by decide +kernel
theorem dX10_goes_36 : decode cX10_goes 36 = .ok (.iload_n 3, 1) := by decide +kernel
theorem dX10_goes_37 : decode cX10_goes 37 = .ok (.iconst 1, 1) := by decide +kernel
theorem dX10_goes_38 : decode cX10_goes 38 = .ok (.iadd, 1) := by decide +kernel
theorem dX10_goes_39 : decode cX10_goes 39 = .ok (.istore 6, 2) := by decide +kernel
theorem dX10_goes_41 : decode cX10_goes 41 = .ok (.iload 6, 2) := by decide +kernel
theorem dX10_goes_43 : decode cX10_goes 43 = .ok (.aload_n 0, 1) := by decide +kernel
theorem dX10_goes_44 : decode cX10_goes 44 = .ok (.iload_n 1, 1) := by decide +kernel
theorem dX10_goes_45 : decode cX10_goes 45 = .ok (.invokevirtual 317, 3) := by decide +kernel
theorem dX10_goes_48 : decode cX10_goes 48 = .ok (.if_icmp .ge 95, 3) := by decide +kernel
theorem dX10_goes_51 : decode cX10_goes 51 = .ok (.aload_n 0, 1) := by decide +kernel
theorem dX10_goes_52 : decode cX10_goes 52 = .ok (.iload_n 1, 1) := by decide +kernel
theorem dX10_goes_53 : decode cX10_goes 53 = .ok (.iload 6, 2) := by decide +kernel
theorem dX10_goes_55 : decode cX10_goes 55 = .ok (.iload_n 3, 1) := by decide +kernel
theorem dX10_goes_56 : decode cX10_goes 56 = .ok (.invokevirtual 320, 3) := by decide +kernel
theorem dX10_goes_59 : decode cX10_goes 59 = .ok (.ifCond .ne 6, 3) := by decide +kernel
theorem dX10_goes_62 : decode cX10_goes 62 = .ok (.goto 75, 3) := by decide +kernel
theorem dX10_goes_65 : decode cX10_goes 65 = .ok (.iload_n 2, 1) := by decide +kernel
theorem dX10_goes_66 : decode cX10_goes 66 = .ok (.iconst 2, 1) := by decide +kernel
theorem dX10_goes_67 : decode cX10_goes 67 = .ok (.if_icmp .ne 18, 3) := by decide +kernel
theorem dX10_goes_70 : decode cX10_goes 70 = .ok (.iload 4, 2) := by decide +kernel
theorem dX10_goes_72 : decode cX10_goes 72 = .ok (.aload_n 0, 1) := by decide +kernel
theorem dX10_goes_73 : decode cX10_goes 73 = .ok (.getfield 34, 3) := by decide +kernel
theorem dX10_goes_76 : decode cX10_goes 76 = .ok (.iload 6, 2) := by decide +kernel
theorem dX10_goes_78 : decode cX10_goes 78 = .ok (.iaload, 1) := by decide +kernel
theorem dX10_goes_79 : decode cX10_goes 79 = .ok (.iadd, 1) := by decide +kernel
theorem dX10_goes_80 : decode cX10_goes 80 = .ok (.istore 4, 2) := by decide +kernel
theorem dX10_goes_82 : decode cX10_goes 82 = .ok (.goto 52, 3) := by decide +kernel
theorem dX10_goes_85 : decode cX10_goes 85 = .ok (.iload 5, 2) := by decide +kernel
theorem dX10_goes_87 : decode cX10_goes 87 = .ok (.ifCond .eq 13, 3) := by decide +kernel
theorem dX10_goes_90 : decode cX10_goes 90 = .ok (.aload_n 0, 1) := by decide +kernel
theorem dX10_goes_91 : decode cX10_goes 91 = .ok (.getfield 34, 3) := by decide +kernel
theorem dX10_goes_94 : decode cX10_goes 94 = .ok (.iload 6, 2) := by decide +kernel
theorem dX10_goes_96 : decode cX10_goes 96 = .ok (.iaload, 1) := by decide +kernel
theorem dX10_goes_97 : decode cX10_goes 97 = .ok (.goto 35, 3) := by decide +kernel
theorem dX10_goes_100 : decode cX10_goes 100 = .ok (.iload_n 2, 1) := by decide +kernel
theorem dX10_goes_101 : decode cX10_goes 101 = .ok (.iconst 1, 1) := by decide +kernel
theorem dX10_goes_102 : decode cX10_goes 102 = .ok (.if_icmp .ne 18, 3) := by decide +kernel
theorem dX10_goes_105 : decode cX10_goes 105 = .ok (.iload 4, 2) := by decide +kernel
theorem dX10_goes_107 : decode cX10_goes 107 = .ok (.aload_n 0, 1) := by decide +kernel
theorem dX10_goes_108 : decode cX10_goes 108 = .ok (.getfield 34, 3) := by decide +kernel
theorem dX10_goes_111 : decode cX10_goes 111 = .ok (.iload 6, 2) := by decide +kernel
theorem dX10_goes_113 : decode cX10_goes 113 = .ok (.iaload, 1) := by decide +kernel
theorem dX10_goes_114 : decode cX10_goes 114 = .ok (.invokestatic 327, 3) := by decide +kernel
theorem dX10_goes_117 : decode cX10_goes 117 = .ok (.goto 15, 3) := by decide +kernel
theorem dX10_goes_120 : decode cX10_goes 120 = .ok (.iload 4, 2) := by decide +kernel
theorem dX10_goes_122 : decode cX10_goes 122 = .ok (.aload_n 0, 1) := by decide +kernel
theorem dX10_goes_123 : decode cX10_goes 123 = .ok (.getfield 34, 3) := by decide +kernel
theorem dX10_goes_126 : decode cX10_goes 126 = .ok (.iload 6, 2) := by decide +kernel
theorem dX10_goes_128 : decode cX10_goes 128 = .ok (.iaload, 1) := by decide +kernel
theorem dX10_goes_129 : decode cX10_goes 129 = .ok (.invokestatic 191, 3) := by decide +kernel
theorem dX10_goes_132 : decode cX10_goes 132 = .ok (.istore 4, 2) := by decide +kernel
theorem dX10_goes_134 : decode cX10_goes 134 = .ok (.iconst 0, 1) := by decide +kernel
theorem dX10_goes_135 : decode cX10_goes 135 = .ok (.istore 5, 2) := by decide +kernel
theorem dX10_goes_137 : decode cX10_goes 137 = .ok (.iinc 6 1, 3) := by decide +kernel
theorem dX10_goes_140 : decode cX10_goes 140 = .ok (.goto (-99), 3) := by decide +kernel
theorem dX10_goes_143 : decode cX10_goes 143 = .ok (.aload_n 0, 1) := by decide +kernel
theorem dX10_goes_144 : decode cX10_goes 144 = .ok (.getfield 34, 3) := by decide +kernel
theorem dX10_goes_147 : decode cX10_goes 147 = .ok (.iload_n 3, 1) := by decide +kernel
theorem dX10_goes_148 : decode cX10_goes 148 = .ok (.iload_n 2, 1) := by decide +kernel
theorem dX10_goes_149 : decode cX10_goes 149 = .ok (.iconst 2, 1) := by decide +kernel
theorem dX10_goes_150 : decode cX10_goes 150 = .ok (.if_icmp .ne 8, 3) := by decide +kernel
theorem dX10_goes_153 : decode cX10_goes 153 = .ok (.iload 4, 2) := by decide +kernel
theorem dX10_goes_155 : decode cX10_goes 155 = .ok (.goto 12, 3) := by decide +kernel
theorem dX10_goes_158 : decode cX10_goes 158 = .ok (.iload 4, 2) := by decide +kernel
theorem dX10_goes_160 : decode cX10_goes 160 = .ok (.aload_n 0, 1) := by decide +kernel
theorem dX10_goes_161 : decode cX10_goes 161 = .ok (.iload_n 1, 1) := by decide +kernel
theorem dX10_goes_162 : decode cX10_goes 162 = .ok (.iload_n 3, 1) := by decide +kernel
theorem dX10_goes_163 : decode cX10_goes 163 = .ok (.invokevirtual 330, 3) := by decide +kernel
theorem dX10_goes_166 : decode cX10_goes 166 = .ok (.iadd, 1) := by decide +kernel
theorem dX10_goes_167 : decode cX10_goes 167 = .ok (.iastore, 1) := by decide +kernel
theorem dX10_goes_168 : decode cX10_goes 168 = .ok (.iinc 3 (-1), 3) := by decide +kernel
theorem dX10_goes_171 : decode cX10_goes 171 = .ok (.goto (-163), 3) := by decide +kernel
theorem dX10_goes_174 : decode cX10_goes 174 = .ok (.aload_n 0, 1) := by decide +kernel
theorem dX10_goes_175 : decode cX10_goes 175 = .ok (.getfield 34, 3) := by decide +kernel
theorem dX10_goes_178 : decode cX10_goes 178 = .ok (.iconst 0, 1) := by decide +kernel
theorem dX10_goes_179 : decode cX10_goes 179 = .ok (.iaload, 1) := by decide +kernel
theorem dX10_goes_180 : decode cX10_goes 180 = .ok (.ireturn, 1) := by decide +kernel
theorem dX10_task_0 : decode cX10_task 0 = .ok (.aload_n 0, 1) := by decide +kernel
theorem dX10_task_1 : decode cX10_task 1 = .ok (.iload_n 1, 1) := by decide +kernel
theorem dX10_task_2 : decode cX10_task 2 = .ok (.invokevirtual 333, 3) := by decide +kernel
theorem dX10_task_5 : decode cX10_task 5 = .ok (.ifCond .eq 24, 3) := by decide +kernel
theorem dX10_task_8 : decode cX10_task 8 = .ok (.iload_n 2, 1) := by decide +kernel
theorem dX10_task_9 : decode cX10_task 9 = .ok (.i2l, 1) := by decide +kernel
theorem dX10_task_10 : decode cX10_task 10 = .ok (.lconst 0, 1) := by decide +kernel
theorem dX10_task_11 : decode cX10_task 11 = .ok (.ldc2_w 337, 3) := by decide +kernel
theorem dX10_task_14 : decode cX10_task 14 = .ok (.invokestatic 152, 3) := by decide +kernel
theorem dX10_task_17 : decode cX10_task 17 = .ok (.ifCond .eq 12, 3) := by decide +kernel
theorem dX10_task_20 : decode cX10_task 20 = .ok (.aload_n 0, 1) := by decide +kernel
theorem dX10_task_21 : decode cX10_task 21 = .ok (.iload_n 1, 1) := by decide +kernel
theorem dX10_task_22 : decode cX10_task 22 = .ok (.iload_n 2, 1) := by decide +kernel
theorem dX10_task_23 : decode cX10_task 23 = .ok (.invokevirtual 156, 3) := by decide +kernel
theorem dX10_task_26 : decode cX10_task 26 = .ok (.goto 5, 3) := by decide +kernel
theorem dX10_task_29 : decode cX10_task 29 = .ok (.bipush (-2), 2) := by decide +kernel
theorem dX10_task_31 : decode cX10_task 31 = .ok (.ireturn, 1) := by decide +kernel
theorem dX10_followersOf_0 : decode cX10_followersOf 0 = .ok (.iconst 0, 1) := by decide +kernel
theorem dX10_followersOf_1 : decode cX10_followersOf 1 = .ok (.istore_n 3, 1) := by decide +kernel
theorem dX10_followersOf_2 : decode cX10_followersOf 2 = .ok (.iload_n 2, 1) := by decide +kernel
theorem dX10_followersOf_3 : decode cX10_followersOf 3 = .ok (.iconst 1, 1) := by decide +kernel
theorem dX10_followersOf_4 : decode cX10_followersOf 4 = .ok (.iadd, 1) := by decide +kernel
theorem dX10_followersOf_5 : decode cX10_followersOf 5 = .ok (.istore 4, 2) := by decide +kernel
theorem dX10_followersOf_7 : decode cX10_followersOf 7 = .ok (.iload 4, 2) := by decide +kernel
theorem dX10_followersOf_9 : decode cX10_followersOf 9 = .ok (.aload_n 0, 1) := by decide +kernel
theorem dX10_followersOf_10 : decode cX10_followersOf 10 = .ok (.iload_n 1, 1) := by decide +kernel
theorem dX10_followersOf_11 : decode cX10_followersOf 11 = .ok (.invokevirtual 317, 3) := by decide +kernel
theorem dX10_followersOf_14 : decode cX10_followersOf 14 = .ok (.if_icmp .ge 31, 3) := by decide +kernel
theorem dX10_followersOf_17 : decode cX10_followersOf 17 = .ok (.iload_n 3, 1) := by decide +kernel
theorem dX10_followersOf_18 : decode cX10_followersOf 18 = .ok (.aload_n 0, 1) := by decide +kernel
theorem dX10_followersOf_19 : decode cX10_followersOf 19 = .ok (.iload_n 1, 1) := by decide +kernel
theorem dX10_followersOf_20 : decode cX10_followersOf 20 = .ok (.iload 4, 2) := by decide +kernel
theorem dX10_followersOf_22 : decode cX10_followersOf 22 = .ok (.iload_n 2, 1) := by decide +kernel
theorem dX10_followersOf_23 : decode cX10_followersOf 23 = .ok (.invokevirtual 320, 3) := by decide +kernel
theorem dX10_followersOf_26 : decode cX10_followersOf 26 = .ok (.ifCond .eq 10, 3) := by decide +kernel
theorem dX10_followersOf_29 : decode cX10_followersOf 29 = .ok (.iconst 1, 1) := by decide +kernel
theorem dX10_followersOf_30 : decode cX10_followersOf 30 = .ok (.iload 4, 2) := by decide +kernel
theorem dX10_followersOf_32 : decode cX10_followersOf 32 = .ok (.ishl, 1) := by decide +kernel
theorem dX10_followersOf_33 : decode cX10_followersOf 33 = .ok (.goto 4, 3) := by decide +kernel
theorem dX10_followersOf_36 : decode cX10_followersOf 36 = .ok (.iconst 0, 1) := by decide +kernel
theorem dX10_followersOf_37 : decode cX10_followersOf 37 = .ok (.ior, 1) := by decide +kernel
theorem dX10_followersOf_38 : decode cX10_followersOf 38 = .ok (.istore_n 3, 1) := by decide +kernel
theorem dX10_followersOf_39 : decode cX10_followersOf 39 = .ok (.iinc 4 1, 3) := by decide +kernel
theorem dX10_followersOf_42 : decode cX10_followersOf 42 = .ok (.goto (-35), 3) := by decide +kernel
theorem dX10_followersOf_45 : decode cX10_followersOf 45 = .ok (.iload_n 3, 1) := by decide +kernel
theorem dX10_followersOf_46 : decode cX10_followersOf 46 = .ok (.ireturn, 1) := by decide +kernel
theorem dX10_node_0 : decode cX10_node 0 = .ok (.aload_n 0, 1) := by decide +kernel
theorem dX10_node_1 : decode cX10_node 1 = .ok (.iload_n 1, 1) := by decide +kernel
theorem dX10_node_2 : decode cX10_node 2 = .ok (.invokevirtual 333, 3) := by decide +kernel
theorem dX10_node_5 : decode cX10_node 5 = .ok (.ifCond .eq 30, 3) := by decide +kernel
theorem dX10_node_8 : decode cX10_node 8 = .ok (.iload_n 2, 1) := by decide +kernel
theorem dX10_node_9 : decode cX10_node 9 = .ok (.i2l, 1) := by decide +kernel
theorem dX10_node_10 : decode cX10_node 10 = .ok (.lconst 0, 1) := by decide +kernel
theorem dX10_node_11 : decode cX10_node 11 = .ok (.aload_n 0, 1) := by decide +kernel
theorem dX10_node_12 : decode cX10_node 12 = .ok (.iload_n 1, 1) := by decide +kernel
theorem dX10_node_13 : decode cX10_node 13 = .ok (.invokevirtual 317, 3) := by decide +kernel
theorem dX10_node_16 : decode cX10_node 16 = .ok (.iconst 1, 1) := by decide +kernel
theorem dX10_node_17 : decode cX10_node 17 = .ok (.isub, 1) := by decide +kernel
theorem dX10_node_18 : decode cX10_node 18 = .ok (.i2l, 1) := by decide +kernel
theorem dX10_node_19 : decode cX10_node 19 = .ok (.invokestatic 152, 3) := by decide +kernel
theorem dX10_node_22 : decode cX10_node 22 = .ok (.ifCond .eq 13, 3) := by decide +kernel
theorem dX10_node_25 : decode cX10_node 25 = .ok (.iload_n 3, 1) := by decide +kernel
theorem dX10_node_26 : decode cX10_node 26 = .ok (.i2l, 1) := by decide +kernel
theorem dX10_node_27 : decode cX10_node 27 = .ok (.lconst 0, 1) := by decide +kernel
theorem dX10_node_28 : decode cX10_node 28 = .ok (.lconst 1, 1) := by decide +kernel
theorem dX10_node_29 : decode cX10_node 29 = .ok (.invokestatic 152, 3) := by decide +kernel
theorem dX10_node_32 : decode cX10_node 32 = .ok (.ifCond .ne 6, 3) := by decide +kernel
theorem dX10_node_35 : decode cX10_node 35 = .ok (.bipush (-2), 2) := by decide +kernel
theorem dX10_node_37 : decode cX10_node 37 = .ok (.ireturn, 1) := by decide +kernel
theorem dX10_node_38 : decode cX10_node 38 = .ok (.iload_n 3, 1) := by decide +kernel
theorem dX10_node_39 : decode cX10_node 39 = .ok (.ifCond .ne 12, 3) := by decide +kernel
theorem dX10_node_42 : decode cX10_node 42 = .ok (.aload_n 0, 1) := by decide +kernel
theorem dX10_node_43 : decode cX10_node 43 = .ok (.iload_n 1, 1) := by decide +kernel
theorem dX10_node_44 : decode cX10_node 44 = .ok (.iload_n 2, 1) := by decide +kernel
theorem dX10_node_45 : decode cX10_node 45 = .ok (.invokevirtual 330, 3) := by decide +kernel
theorem dX10_node_48 : decode cX10_node 48 = .ok (.goto 9, 3) := by decide +kernel
theorem dX10_node_51 : decode cX10_node 51 = .ok (.aload_n 0, 1) := by decide +kernel
theorem dX10_node_52 : decode cX10_node 52 = .ok (.iload_n 1, 1) := by decide +kernel
theorem dX10_node_53 : decode cX10_node 53 = .ok (.iload_n 2, 1) := by decide +kernel
theorem dX10_node_54 : decode cX10_node 54 = .ok (.invokevirtual 339, 3) := by decide +kernel
theorem dX10_node_57 : decode cX10_node 57 = .ok (.ireturn, 1) := by decide +kernel
theorem dX10_watcher_0 : decode cX10_watcher 0 = .ok (.aload_n 0, 1) := by decide +kernel
theorem dX10_watcher_1 : decode cX10_watcher 1 = .ok (.iload_n 1, 1) := by decide +kernel
theorem dX10_watcher_2 : decode cX10_watcher 2 = .ok (.invokevirtual 342, 3) := by decide +kernel
theorem dX10_watcher_5 : decode cX10_watcher 5 = .ok (.ifCond .eq 15, 3) := by decide +kernel
theorem dX10_watcher_8 : decode cX10_watcher 8 = .ok (.aload_n 0, 1) := by decide +kernel
theorem dX10_watcher_9 : decode cX10_watcher 9 = .ok (.getfield 9, 3) := by decide +kernel
theorem dX10_watcher_12 : decode cX10_watcher 12 = .ok (.bipush 8, 2) := by decide +kernel
theorem dX10_watcher_14 : decode cX10_watcher 14 = .ok (.iload_n 1, 1) := by decide +kernel
theorem dX10_watcher_15 : decode cX10_watcher 15 = .ok (.iadd, 1) := by decide +kernel
theorem dX10_watcher_16 : decode cX10_watcher 16 = .ok (.iaload, 1) := by decide +kernel
theorem dX10_watcher_17 : decode cX10_watcher 17 = .ok (.goto 5, 3) := by decide +kernel
theorem dX10_watcher_20 : decode cX10_watcher 20 = .ok (.bipush (-2), 2) := by decide +kernel
theorem dX10_watcher_22 : decode cX10_watcher 22 = .ok (.ireturn, 1) := by decide +kernel
theorem dX10_injection_0 : decode cX10_injection 0 = .ok (.iload_n 1, 1) := by decide +kernel
theorem dX10_injection_1 : decode cX10_injection 1 = .ok (.i2l, 1) := by decide +kernel
theorem dX10_injection_2 : decode cX10_injection 2 = .ok (.lconst 0, 1) := by decide +kernel
theorem dX10_injection_3 : decode cX10_injection 3 = .ok (.aload_n 0, 1) := by decide +kernel
theorem dX10_injection_4 : decode cX10_injection 4 = .ok (.invokevirtual 345, 3) := by decide +kernel
theorem dX10_injection_7 : decode cX10_injection 7 = .ok (.iconst 1, 1) := by decide +kernel
theorem dX10_injection_8 : decode cX10_injection 8 = .ok (.isub, 1) := by decide +kernel
theorem dX10_injection_9 : decode cX10_injection 9 = .ok (.i2l, 1) := by decide +kernel
theorem dX10_injection_10 : decode cX10_injection 10 = .ok (.invokestatic 152, 3) := by decide +kernel
theorem dX10_injection_13 : decode cX10_injection 13 = .ok (.ifCond .eq 24, 3) := by decide +kernel
theorem dX10_injection_16 : decode cX10_injection 16 = .ok (.iload_n 2, 1) := by decide +kernel
theorem dX10_injection_17 : decode cX10_injection 17 = .ok (.i2l, 1) := by decide +kernel
theorem dX10_injection_18 : decode cX10_injection 18 = .ok (.lconst 0, 1) := by decide +kernel
theorem dX10_injection_19 : decode cX10_injection 19 = .ok (.ldc2_w 348, 3) := by decide +kernel
theorem dX10_injection_22 : decode cX10_injection 22 = .ok (.invokestatic 152, 3) := by decide +kernel
theorem dX10_injection_25 : decode cX10_injection 25 = .ok (.ifCond .eq 12, 3) := by decide +kernel
theorem dX10_injection_28 : decode cX10_injection 28 = .ok (.aload_n 0, 1) := by decide +kernel
theorem dX10_injection_29 : decode cX10_injection 29 = .ok (.iload_n 1, 1) := by decide +kernel
theorem dX10_injection_30 : decode cX10_injection 30 = .ok (.iload_n 2, 1) := by decide +kernel
theorem dX10_injection_31 : decode cX10_injection 31 = .ok (.invokevirtual 350, 3) := by decide +kernel
theorem dX10_injection_34 : decode cX10_injection 34 = .ok (.goto 5, 3) := by decide +kernel
theorem dX10_injection_37 : decode cX10_injection 37 = .ok (.bipush (-2), 2) := by decide +kernel
theorem dX10_injection_39 : decode cX10_injection 39 = .ok (.ireturn, 1) := by decide +kernel
theorem dX10_cost_0 : decode cX10_cost 0 = .ok (.aload_n 0, 1) := by decide +kernel
theorem dX10_cost_1 : decode cX10_cost 1 = .ok (.iload_n 1, 1) := by decide +kernel
theorem dX10_cost_2 : decode cX10_cost 2 = .ok (.invokevirtual 333, 3) := by decide +kernel
theorem dX10_cost_5 : decode cX10_cost 5 = .ok (.ifCond .eq 22, 3) := by decide +kernel
theorem dX10_cost_8 : decode cX10_cost 8 = .ok (.iload_n 2, 1) := by decide +kernel
theorem dX10_cost_9 : decode cX10_cost 9 = .ok (.i2l, 1) := by decide +kernel
theorem dX10_cost_10 : decode cX10_cost 10 = .ok (.lconst 0, 1) := by decide +kernel
theorem dX10_cost_11 : decode cX10_cost 11 = .ok (.lconst 1, 1) := by decide +kernel
theorem dX10_cost_12 : decode cX10_cost 12 = .ok (.invokestatic 152, 3) := by decide +kernel
theorem dX10_cost_15 : decode cX10_cost 15 = .ok (.ifCond .eq 12, 3) := by decide +kernel
theorem dX10_cost_18 : decode cX10_cost 18 = .ok (.aload_n 0, 1) := by decide +kernel
theorem dX10_cost_19 : decode cX10_cost 19 = .ok (.iload_n 1, 1) := by decide +kernel
theorem dX10_cost_20 : decode cX10_cost 20 = .ok (.iload_n 2, 1) := by decide +kernel
theorem dX10_cost_21 : decode cX10_cost 21 = .ok (.invokevirtual 353, 3) := by decide +kernel
theorem dX10_cost_24 : decode cX10_cost 24 = .ok (.goto 5, 3) := by decide +kernel
theorem dX10_cost_27 : decode cX10_cost 27 = .ok (.bipush (-2), 2) := by decide +kernel
theorem dX10_cost_29 : decode cX10_cost 29 = .ok (.ireturn, 1) := by decide +kernel
theorem dX10_ways_0 : decode cX10_ways 0 = .ok (.aload_n 0, 1) := by decide +kernel
theorem dX10_ways_1 : decode cX10_ways 1 = .ok (.iload_n 1, 1) := by decide +kernel
theorem dX10_ways_2 : decode cX10_ways 2 = .ok (.invokevirtual 333, 3) := by decide +kernel
theorem dX10_ways_5 : decode cX10_ways 5 = .ok (.ifCond .eq 12, 3) := by decide +kernel
theorem dX10_ways_8 : decode cX10_ways 8 = .ok (.aload_n 0, 1) := by decide +kernel
theorem dX10_ways_9 : decode cX10_ways 9 = .ok (.iload_n 1, 1) := by decide +kernel
theorem dX10_ways_10 : decode cX10_ways 10 = .ok (.iconst 2, 1) := by decide +kernel
theorem dX10_ways_11 : decode cX10_ways 11 = .ok (.invokevirtual 353, 3) := by decide +kernel
theorem dX10_ways_14 : decode cX10_ways 14 = .ok (.goto 5, 3) := by decide +kernel
theorem dX10_ways_17 : decode cX10_ways 17 = .ok (.bipush (-2), 2) := by decide +kernel
theorem dX10_ways_19 : decode cX10_ways 19 = .ok (.ireturn, 1) := by decide +kernel
theorem dX10_laysCosts_0 : decode cX10_laysCosts 0 = .ok (.iconst 0, 1) := by decide +kernel
theorem dX10_laysCosts_1 : decode cX10_laysCosts 1 = .ok (.istore_n 1, 1) := by decide +kernel
theorem dX10_laysCosts_2 : decode cX10_laysCosts 2 = .ok (.iload_n 1, 1) := by decide +kernel
theorem dX10_laysCosts_3 : decode cX10_laysCosts 3 = .ok (.aload_n 0, 1) := by decide +kernel
theorem dX10_laysCosts_4 : decode cX10_laysCosts 4 = .ok (.getfield 9, 3) := by decide +kernel
theorem dX10_laysCosts_7 : decode cX10_laysCosts 7 = .ok (.iconst 4, 1) := by decide +kernel
theorem dX10_laysCosts_8 : decode cX10_laysCosts 8 = .ok (.iaload, 1) := by decide +kernel
theorem dX10_laysCosts_9 : decode cX10_laysCosts 9 = .ok (.if_icmp .ge 44, 3) := by decide +kernel
theorem dX10_laysCosts_12 : decode cX10_laysCosts 12 = .ok (.aload_n 0, 1) := by decide +kernel
theorem dX10_laysCosts_13 : decode cX10_laysCosts 13 = .ok (.getfield 40, 3) := by decide +kernel
theorem dX10_laysCosts_16 : decode cX10_laysCosts 16 = .ok (.iload_n 1, 1) := by decide +kernel
theorem dX10_laysCosts_17 : decode cX10_laysCosts 17 = .ok (.aload_n 0, 1) := by decide +kernel
theorem dX10_laysCosts_18 : decode cX10_laysCosts 18 = .ok (.iload_n 1, 1) := by decide +kernel
theorem dX10_laysCosts_19 : decode cX10_laysCosts 19 = .ok (.iconst 0, 1) := by decide +kernel
theorem dX10_laysCosts_20 : decode cX10_laysCosts 20 = .ok (.invokevirtual 353, 3) := by decide +kernel
theorem dX10_laysCosts_23 : decode cX10_laysCosts 23 = .ok (.iastore, 1) := by decide +kernel
theorem dX10_laysCosts_24 : decode cX10_laysCosts 24 = .ok (.aload_n 0, 1) := by decide +kernel
theorem dX10_laysCosts_25 : decode cX10_laysCosts 25 = .ok (.getfield 37, 3) := by decide +kernel
theorem dX10_laysCosts_28 : decode cX10_laysCosts 28 = .ok (.iload_n 1, 1) := by decide +kernel
theorem dX10_laysCosts_29 : decode cX10_laysCosts 29 = .ok (.aload_n 0, 1) := by decide +kernel
theorem dX10_laysCosts_30 : decode cX10_laysCosts 30 = .ok (.iload_n 1, 1) := by decide +kernel
theorem dX10_laysCosts_31 : decode cX10_laysCosts 31 = .ok (.iconst 1, 1) := by decide +kernel
theorem dX10_laysCosts_32 : decode cX10_laysCosts 32 = .ok (.invokevirtual 353, 3) := by decide +kernel
theorem dX10_laysCosts_35 : decode cX10_laysCosts 35 = .ok (.iastore, 1) := by decide +kernel
theorem dX10_laysCosts_36 : decode cX10_laysCosts 36 = .ok (.aload_n 0, 1) := by decide +kernel
theorem dX10_laysCosts_37 : decode cX10_laysCosts 37 = .ok (.getfield 43, 3) := by decide +kernel
theorem dX10_laysCosts_40 : decode cX10_laysCosts 40 = .ok (.iload_n 1, 1) := by decide +kernel
theorem dX10_laysCosts_41 : decode cX10_laysCosts 41 = .ok (.iconst 1, 1) := by decide +kernel
theorem dX10_laysCosts_42 : decode cX10_laysCosts 42 = .ok (.iload_n 1, 1) := by decide +kernel
theorem dX10_laysCosts_43 : decode cX10_laysCosts 43 = .ok (.ishl, 1) := by decide +kernel
theorem dX10_laysCosts_44 : decode cX10_laysCosts 44 = .ok (.iconst 1, 1) := by decide +kernel
theorem dX10_laysCosts_45 : decode cX10_laysCosts 45 = .ok (.isub, 1) := by decide +kernel
theorem dX10_laysCosts_46 : decode cX10_laysCosts 46 = .ok (.iastore, 1) := by decide +kernel
theorem dX10_laysCosts_47 : decode cX10_laysCosts 47 = .ok (.iinc 1 1, 3) := by decide +kernel
theorem dX10_laysCosts_50 : decode cX10_laysCosts 50 = .ok (.goto (-48), 3) := by decide +kernel
theorem dX10_laysCosts_53 : decode cX10_laysCosts 53 = .ok (.return_, 1) := by decide +kernel
theorem dX10_responseOf_0 : decode cX10_responseOf 0 = .ok (.aload_n 0, 1) := by decide +kernel
theorem dX10_responseOf_1 : decode cX10_responseOf 1 = .ok (.getfield 37, 3) := by decide +kernel
theorem dX10_responseOf_4 : decode cX10_responseOf 4 = .ok (.iload_n 1, 1) := by decide +kernel
theorem dX10_responseOf_5 : decode cX10_responseOf 5 = .ok (.iaload, 1) := by decide +kernel
theorem dX10_responseOf_6 : decode cX10_responseOf 6 = .ok (.istore_n 2, 1) := by decide +kernel
theorem dX10_responseOf_7 : decode cX10_responseOf 7 = .ok (.iload_n 2, 1) := by decide +kernel
theorem dX10_responseOf_8 : decode cX10_responseOf 8 = .ok (.aload_n 0, 1) := by decide +kernel
theorem dX10_responseOf_9 : decode cX10_responseOf 9 = .ok (.iload_n 1, 1) := by decide +kernel
theorem dX10_responseOf_10 : decode cX10_responseOf 10 = .ok (.invokevirtual 356, 3) := by decide +kernel
theorem dX10_responseOf_13 : decode cX10_responseOf 13 = .ok (.if_icmp .gt 90, 3) := by decide +kernel
theorem dX10_responseOf_16 : decode cX10_responseOf 16 = .ok (.aload_n 0, 1) := by decide +kernel
theorem dX10_responseOf_17 : decode cX10_responseOf 17 = .ok (.getfield 37, 3) := by decide +kernel
theorem dX10_responseOf_20 : decode cX10_responseOf 20 = .ok (.iload_n 1, 1) := by decide +kernel
theorem dX10_responseOf_21 : decode cX10_responseOf 21 = .ok (.iaload, 1) := by decide +kernel
theorem dX10_responseOf_22 : decode cX10_responseOf 22 = .ok (.istore_n 3, 1) := by decide +kernel
theorem dX10_responseOf_23 : decode cX10_responseOf 23 = .ok (.iconst 0, 1) := by decide +kernel
theorem dX10_responseOf_24 : decode cX10_responseOf 24 = .ok (.istore 4, 2) := by decide +kernel
theorem dX10_responseOf_26 : decode cX10_responseOf 26 = .ok (.iload 4, 2) := by decide +kernel
theorem dX10_responseOf_28 : decode cX10_responseOf 28 = .ok (.aload_n 0, 1) := by decide +kernel
theorem dX10_responseOf_29 : decode cX10_responseOf 29 = .ok (.getfield 9, 3) := by decide +kernel
theorem dX10_responseOf_32 : decode cX10_responseOf 32 = .ok (.iconst 4, 1) := by decide +kernel
theorem dX10_responseOf_33 : decode cX10_responseOf 33 = .ok (.iaload, 1) := by decide +kernel
theorem dX10_responseOf_34 : decode cX10_responseOf 34 = .ok (.if_icmp .ge 56, 3) := by decide +kernel
theorem dX10_responseOf_37 : decode cX10_responseOf 37 = .ok (.iload_n 3, 1) := by decide +kernel
theorem dX10_responseOf_38 : decode cX10_responseOf 38 = .ok (.aload_n 0, 1) := by decide +kernel
theorem dX10_responseOf_39 : decode cX10_responseOf 39 = .ok (.getfield 43, 3) := by decide +kernel
theorem dX10_responseOf_42 : decode cX10_responseOf 42 = .ok (.iload_n 1, 1) := by decide +kernel
theorem dX10_responseOf_43 : decode cX10_responseOf 43 = .ok (.iaload, 1) := by decide +kernel
theorem dX10_responseOf_44 : decode cX10_responseOf 44 = .ok (.iload 4, 2) := by decide +kernel
theorem dX10_responseOf_46 : decode cX10_responseOf 46 = .ok (.ishr, 1) := by decide +kernel
theorem dX10_responseOf_47 : decode cX10_responseOf 47 = .ok (.iconst 1, 1) := by decide +kernel
theorem dX10_responseOf_48 : decode cX10_responseOf 48 = .ok (.iand, 1) := by decide +kernel
theorem dX10_responseOf_49 : decode cX10_responseOf 49 = .ok (.iconst 1, 1) := by decide +kernel
theorem dX10_responseOf_50 : decode cX10_responseOf 50 = .ok (.if_icmp .ne 31, 3) := by decide +kernel
theorem dX10_responseOf_53 : decode cX10_responseOf 53 = .ok (.iload_n 2, 1) := by decide +kernel
theorem dX10_responseOf_54 : decode cX10_responseOf 54 = .ok (.aload_n 0, 1) := by decide +kernel
theorem dX10_responseOf_55 : decode cX10_responseOf 55 = .ok (.iload 4, 2) := by decide +kernel
theorem dX10_responseOf_57 : decode cX10_responseOf 57 = .ok (.invokevirtual 356, 3) := by decide +kernel
theorem dX10_responseOf_60 : decode cX10_responseOf 60 = .ok (.iadd, 1) := by decide +kernel
theorem dX10_responseOf_61 : decode cX10_responseOf 61 = .ok (.iconst 1, 1) := by decide +kernel
theorem dX10_responseOf_62 : decode cX10_responseOf 62 = .ok (.isub, 1) := by decide +kernel
theorem dX10_responseOf_63 : decode cX10_responseOf 63 = .ok (.aload_n 0, 1) := by decide +kernel
theorem dX10_responseOf_64 : decode cX10_responseOf 64 = .ok (.iload 4, 2) := by decide +kernel
theorem dX10_responseOf_66 : decode cX10_responseOf 66 = .ok (.invokevirtual 356, 3) := by decide +kernel
theorem dX10_responseOf_69 : decode cX10_responseOf 69 = .ok (.idiv, 1) := by decide +kernel
theorem dX10_responseOf_70 : decode cX10_responseOf 70 = .ok (.aload_n 0, 1) := by decide +kernel
theorem dX10_responseOf_71 : decode cX10_responseOf 71 = .ok (.getfield 37, 3) := by decide +kernel
theorem dX10_responseOf_74 : decode cX10_responseOf 74 = .ok (.iload 4, 2) := by decide +kernel
theorem dX10_responseOf_76 : decode cX10_responseOf 76 = .ok (.iaload, 1) := by decide +kernel
theorem dX10_responseOf_77 : decode cX10_responseOf 77 = .ok (.imul, 1) := by decide +kernel
theorem dX10_responseOf_78 : decode cX10_responseOf 78 = .ok (.goto 4, 3) := by decide +kernel
theorem dX10_responseOf_81 : decode cX10_responseOf 81 = .ok (.iconst 0, 1) := by decide +kernel
theorem dX10_responseOf_82 : decode cX10_responseOf 82 = .ok (.iadd, 1) := by decide +kernel
theorem dX10_responseOf_83 : decode cX10_responseOf 83 = .ok (.istore_n 3, 1) := by decide +kernel
theorem dX10_responseOf_84 : decode cX10_responseOf 84 = .ok (.iinc 4 1, 3) := by decide +kernel
theorem dX10_responseOf_87 : decode cX10_responseOf 87 = .ok (.goto (-61), 3) := by decide +kernel
theorem dX10_responseOf_90 : decode cX10_responseOf 90 = .ok (.iload_n 3, 1) := by decide +kernel
theorem dX10_responseOf_91 : decode cX10_responseOf 91 = .ok (.iload_n 2, 1) := by decide +kernel
theorem dX10_responseOf_92 : decode cX10_responseOf 92 = .ok (.if_icmp .ne 5, 3) := by decide +kernel
theorem dX10_responseOf_95 : decode cX10_responseOf 95 = .ok (.iload_n 2, 1) := by decide +kernel
theorem dX10_responseOf_96 : decode cX10_responseOf 96 = .ok (.ireturn, 1) := by decide +kernel
theorem dX10_responseOf_97 : decode cX10_responseOf 97 = .ok (.iinc 2 1, 3) := by decide +kernel
theorem dX10_responseOf_100 : decode cX10_responseOf 100 = .ok (.goto (-93), 3) := by decide +kernel
theorem dX10_responseOf_103 : decode cX10_responseOf 103 = .ok (.iconst (-1), 1) := by decide +kernel
theorem dX10_responseOf_104 : decode cX10_responseOf 104 = .ok (.ireturn, 1) := by decide +kernel
theorem dX10_boundOf_0 : decode cX10_boundOf 0 = .ok (.aload_n 0, 1) := by decide +kernel
theorem dX10_boundOf_1 : decode cX10_boundOf 1 = .ok (.iload_n 1, 1) := by decide +kernel
theorem dX10_boundOf_2 : decode cX10_boundOf 2 = .ok (.invokevirtual 358, 3) := by decide +kernel
theorem dX10_boundOf_5 : decode cX10_boundOf 5 = .ok (.aload_n 0, 1) := by decide +kernel
theorem dX10_boundOf_6 : decode cX10_boundOf 6 = .ok (.getfield 40, 3) := by decide +kernel
theorem dX10_boundOf_9 : decode cX10_boundOf 9 = .ok (.iload_n 1, 1) := by decide +kernel
theorem dX10_boundOf_10 : decode cX10_boundOf 10 = .ok (.iaload, 1) := by decide +kernel
theorem dX10_boundOf_11 : decode cX10_boundOf 11 = .ok (.isub, 1) := by decide +kernel
theorem dX10_boundOf_12 : decode cX10_boundOf 12 = .ok (.istore_n 3, 1) := by decide +kernel
theorem dX10_boundOf_13 : decode cX10_boundOf 13 = .ok (.iload_n 2, 1) := by decide +kernel
theorem dX10_boundOf_14 : decode cX10_boundOf 14 = .ok (.tableswitch 71 0 2 #[26, 34, 42], 26) := by decide +kernel
theorem dX10_boundOf_40 : decode cX10_boundOf 40 = .ok (.aload_n 0, 1) := by decide +kernel
theorem dX10_boundOf_41 : decode cX10_boundOf 41 = .ok (.iload_n 1, 1) := by decide +kernel
theorem dX10_boundOf_42 : decode cX10_boundOf 42 = .ok (.invokevirtual 356, 3) := by decide +kernel
theorem dX10_boundOf_45 : decode cX10_boundOf 45 = .ok (.iload_n 3, 1) := by decide +kernel
theorem dX10_boundOf_46 : decode cX10_boundOf 46 = .ok (.isub, 1) := by decide +kernel
theorem dX10_boundOf_47 : decode cX10_boundOf 47 = .ok (.ireturn, 1) := by decide +kernel
theorem dX10_boundOf_48 : decode cX10_boundOf 48 = .ok (.aload_n 0, 1) := by decide +kernel
theorem dX10_boundOf_49 : decode cX10_boundOf 49 = .ok (.iload_n 1, 1) := by decide +kernel
theorem dX10_boundOf_50 : decode cX10_boundOf 50 = .ok (.invokevirtual 356, 3) := by decide +kernel
theorem dX10_boundOf_53 : decode cX10_boundOf 53 = .ok (.iload_n 3, 1) := by decide +kernel
theorem dX10_boundOf_54 : decode cX10_boundOf 54 = .ok (.iadd, 1) := by decide +kernel
theorem dX10_boundOf_55 : decode cX10_boundOf 55 = .ok (.ireturn, 1) := by decide +kernel
theorem dX10_boundOf_56 : decode cX10_boundOf 56 = .ok (.aload_n 0, 1) := by decide +kernel
theorem dX10_boundOf_57 : decode cX10_boundOf 57 = .ok (.getfield 9, 3) := by decide +kernel
theorem dX10_boundOf_60 : decode cX10_boundOf 60 = .ok (.iconst 1, 1) := by decide +kernel
theorem dX10_boundOf_61 : decode cX10_boundOf 61 = .ok (.iaload, 1) := by decide +kernel
theorem dX10_boundOf_62 : decode cX10_boundOf 62 = .ok (.iload_n 3, 1) := by decide +kernel
theorem dX10_boundOf_63 : decode cX10_boundOf 63 = .ok (.if_icmp .ge 7, 3) := by decide +kernel
theorem dX10_boundOf_66 : decode cX10_boundOf 66 = .ok (.iconst 0, 1) := by decide +kernel
theorem dX10_boundOf_67 : decode cX10_boundOf 67 = .ok (.goto 17, 3) := by decide +kernel
theorem dX10_boundOf_70 : decode cX10_boundOf 70 = .ok (.aload_n 0, 1) := by decide +kernel
theorem dX10_boundOf_71 : decode cX10_boundOf 71 = .ok (.getfield 9, 3) := by decide +kernel
theorem dX10_boundOf_74 : decode cX10_boundOf 74 = .ok (.iconst 1, 1) := by decide +kernel
theorem dX10_boundOf_75 : decode cX10_boundOf 75 = .ok (.iaload, 1) := by decide +kernel
theorem dX10_boundOf_76 : decode cX10_boundOf 76 = .ok (.iload_n 3, 1) := by decide +kernel
theorem dX10_boundOf_77 : decode cX10_boundOf 77 = .ok (.isub, 1) := by decide +kernel
theorem dX10_boundOf_78 : decode cX10_boundOf 78 = .ok (.aload_n 0, 1) := by decide +kernel
theorem dX10_boundOf_79 : decode cX10_boundOf 79 = .ok (.iload_n 1, 1) := by decide +kernel
theorem dX10_boundOf_80 : decode cX10_boundOf 80 = .ok (.invokevirtual 356, 3) := by decide +kernel
theorem dX10_boundOf_83 : decode cX10_boundOf 83 = .ok (.idiv, 1) := by decide +kernel
theorem dX10_boundOf_84 : decode cX10_boundOf 84 = .ok (.ireturn, 1) := by decide +kernel
theorem dX10_boundOf_85 : decode cX10_boundOf 85 = .ok (.aload_n 0, 1) := by decide +kernel
theorem dX10_boundOf_86 : decode cX10_boundOf 86 = .ok (.getfield 9, 3) := by decide +kernel
theorem dX10_boundOf_89 : decode cX10_boundOf 89 = .ok (.iconst 1, 1) := by decide +kernel
theorem dX10_boundOf_90 : decode cX10_boundOf 90 = .ok (.iaload, 1) := by decide +kernel
theorem dX10_boundOf_91 : decode cX10_boundOf 91 = .ok (.iload_n 3, 1) := by decide +kernel
theorem dX10_boundOf_92 : decode cX10_boundOf 92 = .ok (.iadd, 1) := by decide +kernel
theorem dX10_boundOf_93 : decode cX10_boundOf 93 = .ok (.aload_n 0, 1) := by decide +kernel
theorem dX10_boundOf_94 : decode cX10_boundOf 94 = .ok (.iload_n 1, 1) := by decide +kernel
theorem dX10_boundOf_95 : decode cX10_boundOf 95 = .ok (.invokevirtual 356, 3) := by decide +kernel
theorem dX10_boundOf_98 : decode cX10_boundOf 98 = .ok (.iadd, 1) := by decide +kernel
theorem dX10_boundOf_99 : decode cX10_boundOf 99 = .ok (.iconst 1, 1) := by decide +kernel
theorem dX10_boundOf_100 : decode cX10_boundOf 100 = .ok (.isub, 1) := by decide +kernel
theorem dX10_boundOf_101 : decode cX10_boundOf 101 = .ok (.aload_n 0, 1) := by decide +kernel
theorem dX10_boundOf_102 : decode cX10_boundOf 102 = .ok (.iload_n 1, 1) := by decide +kernel
theorem dX10_boundOf_103 : decode cX10_boundOf 103 = .ok (.invokevirtual 356, 3) := by decide +kernel
theorem dX10_boundOf_106 : decode cX10_boundOf 106 = .ok (.idiv, 1) := by decide +kernel
theorem dX10_boundOf_107 : decode cX10_boundOf 107 = .ok (.ireturn, 1) := by decide +kernel
theorem dX10_isLawful_0 : decode cX10_isLawful 0 = .ok (.aload_n 0, 1) := by decide +kernel
theorem dX10_isLawful_1 : decode cX10_isLawful 1 = .ok (.iload_n 1, 1) := by decide +kernel
theorem dX10_isLawful_2 : decode cX10_isLawful 2 = .ok (.invokevirtual 358, 3) := by decide +kernel
theorem dX10_isLawful_5 : decode cX10_isLawful 5 = .ok (.iconst (-1), 1) := by decide +kernel
theorem dX10_isLawful_6 : decode cX10_isLawful 6 = .ok (.if_icmp .ne 5, 3) := by decide +kernel
theorem dX10_isLawful_9 : decode cX10_isLawful 9 = .ok (.iconst 0, 1) := by decide +kernel
theorem dX10_isLawful_10 : decode cX10_isLawful 10 = .ok (.ireturn, 1) := by decide +kernel
theorem dX10_isLawful_11 : decode cX10_isLawful 11 = .ok (.aload_n 0, 1) := by decide +kernel
theorem dX10_isLawful_12 : decode cX10_isLawful 12 = .ok (.iload_n 1, 1) := by decide +kernel
theorem dX10_isLawful_13 : decode cX10_isLawful 13 = .ok (.iconst 2, 1) := by decide +kernel
theorem dX10_isLawful_14 : decode cX10_isLawful 14 = .ok (.invokevirtual 156, 3) := by decide +kernel
theorem dX10_isLawful_17 : decode cX10_isLawful 17 = .ok (.aload_n 0, 1) := by decide +kernel
theorem dX10_isLawful_18 : decode cX10_isLawful 18 = .ok (.iload_n 1, 1) := by decide +kernel
theorem dX10_isLawful_19 : decode cX10_isLawful 19 = .ok (.iconst 0, 1) := by decide +kernel
theorem dX10_isLawful_20 : decode cX10_isLawful 20 = .ok (.invokevirtual 361, 3) := by decide +kernel
theorem dX10_isLawful_23 : decode cX10_isLawful 23 = .ok (.if_icmp .gt 52, 3) := by decide +kernel
theorem dX10_isLawful_26 : decode cX10_isLawful 26 = .ok (.aload_n 0, 1) := by decide +kernel
theorem dX10_isLawful_27 : decode cX10_isLawful 27 = .ok (.iload_n 1, 1) := by decide +kernel
theorem dX10_isLawful_28 : decode cX10_isLawful 28 = .ok (.iconst 3, 1) := by decide +kernel
theorem dX10_isLawful_29 : decode cX10_isLawful 29 = .ok (.invokevirtual 156, 3) := by decide +kernel
theorem dX10_isLawful_32 : decode cX10_isLawful 32 = .ok (.aload_n 0, 1) := by decide +kernel
theorem dX10_isLawful_33 : decode cX10_isLawful 33 = .ok (.iload_n 1, 1) := by decide +kernel
theorem dX10_isLawful_34 : decode cX10_isLawful 34 = .ok (.iconst 1, 1) := by decide +kernel
theorem dX10_isLawful_35 : decode cX10_isLawful 35 = .ok (.invokevirtual 361, 3) := by decide +kernel
theorem dX10_isLawful_38 : decode cX10_isLawful 38 = .ok (.if_icmp .lt 37, 3) := by decide +kernel
theorem dX10_isLawful_41 : decode cX10_isLawful 41 = .ok (.aload_n 0, 1) := by decide +kernel
theorem dX10_isLawful_42 : decode cX10_isLawful 42 = .ok (.iload_n 1, 1) := by decide +kernel
theorem dX10_isLawful_43 : decode cX10_isLawful 43 = .ok (.iconst 4, 1) := by decide +kernel
theorem dX10_isLawful_44 : decode cX10_isLawful 44 = .ok (.invokevirtual 156, 3) := by decide +kernel
theorem dX10_isLawful_47 : decode cX10_isLawful 47 = .ok (.aload_n 0, 1) := by decide +kernel
theorem dX10_isLawful_48 : decode cX10_isLawful 48 = .ok (.iload_n 1, 1) := by decide +kernel
theorem dX10_isLawful_49 : decode cX10_isLawful 49 = .ok (.iconst 2, 1) := by decide +kernel
theorem dX10_isLawful_50 : decode cX10_isLawful 50 = .ok (.invokevirtual 361, 3) := by decide +kernel
theorem dX10_isLawful_53 : decode cX10_isLawful 53 = .ok (.if_icmp .gt 22, 3) := by decide +kernel
theorem dX10_isLawful_56 : decode cX10_isLawful 56 = .ok (.aload_n 0, 1) := by decide +kernel
theorem dX10_isLawful_57 : decode cX10_isLawful 57 = .ok (.iload_n 1, 1) := by decide +kernel
theorem dX10_isLawful_58 : decode cX10_isLawful 58 = .ok (.iconst 5, 1) := by decide +kernel
theorem dX10_isLawful_59 : decode cX10_isLawful 59 = .ok (.invokevirtual 156, 3) := by decide +kernel
theorem dX10_isLawful_62 : decode cX10_isLawful 62 = .ok (.aload_n 0, 1) := by decide +kernel
theorem dX10_isLawful_63 : decode cX10_isLawful 63 = .ok (.iload_n 1, 1) := by decide +kernel
theorem dX10_isLawful_64 : decode cX10_isLawful 64 = .ok (.iconst 3, 1) := by decide +kernel
theorem dX10_isLawful_65 : decode cX10_isLawful 65 = .ok (.invokevirtual 361, 3) := by decide +kernel
theorem dX10_isLawful_68 : decode cX10_isLawful 68 = .ok (.if_icmp .lt 7, 3) := by decide +kernel
theorem dX10_isLawful_71 : decode cX10_isLawful 71 = .ok (.iconst 1, 1) := by decide +kernel
theorem dX10_isLawful_72 : decode cX10_isLawful 72 = .ok (.goto 4, 3) := by decide +kernel
theorem dX10_isLawful_75 : decode cX10_isLawful 75 = .ok (.iconst 0, 1) := by decide +kernel
theorem dX10_isLawful_76 : decode cX10_isLawful 76 = .ok (.ireturn, 1) := by decide +kernel
theorem dX10_lawfulNow_0 : decode cX10_lawfulNow 0 = .ok (.iconst 0, 1) := by decide +kernel
theorem dX10_lawfulNow_1 : decode cX10_lawfulNow 1 = .ok (.istore_n 1, 1) := by decide +kernel
theorem dX10_lawfulNow_2 : decode cX10_lawfulNow 2 = .ok (.iconst 0, 1) := by decide +kernel
theorem dX10_lawfulNow_3 : decode cX10_lawfulNow 3 = .ok (.istore_n 2, 1) := by decide +kernel
theorem dX10_lawfulNow_4 : decode cX10_lawfulNow 4 = .ok (.iload_n 2, 1) := by decide +kernel
theorem dX10_lawfulNow_5 : decode cX10_lawfulNow 5 = .ok (.aload_n 0, 1) := by decide +kernel
theorem dX10_lawfulNow_6 : decode cX10_lawfulNow 6 = .ok (.getfield 9, 3) := by decide +kernel
theorem dX10_lawfulNow_9 : decode cX10_lawfulNow 9 = .ok (.iconst 4, 1) := by decide +kernel
theorem dX10_lawfulNow_10 : decode cX10_lawfulNow 10 = .ok (.iaload, 1) := by decide +kernel
theorem dX10_lawfulNow_11 : decode cX10_lawfulNow 11 = .ok (.if_icmp .ge 27, 3) := by decide +kernel
theorem dX10_lawfulNow_14 : decode cX10_lawfulNow 14 = .ok (.iload_n 1, 1) := by decide +kernel
theorem dX10_lawfulNow_15 : decode cX10_lawfulNow 15 = .ok (.aload_n 0, 1) := by decide +kernel
theorem dX10_lawfulNow_16 : decode cX10_lawfulNow 16 = .ok (.iload_n 2, 1) := by decide +kernel
theorem dX10_lawfulNow_17 : decode cX10_lawfulNow 17 = .ok (.invokevirtual 364, 3) := by decide +kernel
theorem dX10_lawfulNow_20 : decode cX10_lawfulNow 20 = .ok (.ifCond .eq 9, 3) := by decide +kernel
theorem dX10_lawfulNow_23 : decode cX10_lawfulNow 23 = .ok (.iconst 1, 1) := by decide +kernel
theorem dX10_lawfulNow_24 : decode cX10_lawfulNow 24 = .ok (.iload_n 2, 1) := by decide +kernel
theorem dX10_lawfulNow_25 : decode cX10_lawfulNow 25 = .ok (.ishl, 1) := by decide +kernel
theorem dX10_lawfulNow_26 : decode cX10_lawfulNow 26 = .ok (.goto 4, 3) := by decide +kernel
theorem dX10_lawfulNow_29 : decode cX10_lawfulNow 29 = .ok (.iconst 0, 1) := by decide +kernel
theorem dX10_lawfulNow_30 : decode cX10_lawfulNow 30 = .ok (.ior, 1) := by decide +kernel
theorem dX10_lawfulNow_31 : decode cX10_lawfulNow 31 = .ok (.istore_n 1, 1) := by decide +kernel
theorem dX10_lawfulNow_32 : decode cX10_lawfulNow 32 = .ok (.iinc 2 1, 3) := by decide +kernel
theorem dX10_lawfulNow_35 : decode cX10_lawfulNow 35 = .ok (.goto (-31), 3) := by decide +kernel
theorem dX10_lawfulNow_38 : decode cX10_lawfulNow 38 = .ok (.iload_n 1, 1) := by decide +kernel
theorem dX10_lawfulNow_39 : decode cX10_lawfulNow 39 = .ok (.ireturn, 1) := by decide +kernel
theorem dX10_response_0 : decode cX10_response 0 = .ok (.aload_n 0, 1) := by decide +kernel
theorem dX10_response_1 : decode cX10_response 1 = .ok (.iload_n 1, 1) := by decide +kernel
theorem dX10_response_2 : decode cX10_response 2 = .ok (.invokevirtual 333, 3) := by decide +kernel
theorem dX10_response_5 : decode cX10_response 5 = .ok (.ifCond .ne 6, 3) := by decide +kernel
theorem dX10_response_8 : decode cX10_response 8 = .ok (.bipush (-2), 2) := by decide +kernel
theorem dX10_response_10 : decode cX10_response 10 = .ok (.ireturn, 1) := by decide +kernel
theorem dX10_response_11 : decode cX10_response 11 = .ok (.aload_n 0, 1) := by decide +kernel
theorem dX10_response_12 : decode cX10_response 12 = .ok (.invokevirtual 367, 3) := by decide +kernel
theorem dX10_response_15 : decode cX10_response 15 = .ok (.aload_n 0, 1) := by decide +kernel
theorem dX10_response_16 : decode cX10_response 16 = .ok (.iload_n 1, 1) := by decide +kernel
theorem dX10_response_17 : decode cX10_response 17 = .ok (.invokevirtual 358, 3) := by decide +kernel
theorem dX10_response_20 : decode cX10_response 20 = .ok (.ireturn, 1) := by decide +kernel
theorem dX10_least_0 : decode cX10_least 0 = .ok (.aload_n 0, 1) := by decide +kernel
theorem dX10_least_1 : decode cX10_least 1 = .ok (.iload_n 1, 1) := by decide +kernel
theorem dX10_least_2 : decode cX10_least 2 = .ok (.invokevirtual 333, 3) := by decide +kernel
theorem dX10_least_5 : decode cX10_least 5 = .ok (.ifCond .eq 15, 3) := by decide +kernel
theorem dX10_least_8 : decode cX10_least 8 = .ok (.iload_n 2, 1) := by decide +kernel
theorem dX10_least_9 : decode cX10_least 9 = .ok (.i2l, 1) := by decide +kernel
theorem dX10_least_10 : decode cX10_least 10 = .ok (.lconst 0, 1) := by decide +kernel
theorem dX10_least_11 : decode cX10_least 11 = .ok (.ldc2_w 370, 3) := by decide +kernel
theorem dX10_least_14 : decode cX10_least 14 = .ok (.invokestatic 152, 3) := by decide +kernel
theorem dX10_least_17 : decode cX10_least 17 = .ok (.ifCond .ne 6, 3) := by decide +kernel
theorem dX10_least_20 : decode cX10_least 20 = .ok (.bipush (-2), 2) := by decide +kernel
theorem dX10_least_22 : decode cX10_least 22 = .ok (.ireturn, 1) := by decide +kernel
theorem dX10_least_23 : decode cX10_least 23 = .ok (.aload_n 0, 1) := by decide +kernel
theorem dX10_least_24 : decode cX10_least 24 = .ok (.invokevirtual 367, 3) := by decide +kernel
theorem dX10_least_27 : decode cX10_least 27 = .ok (.aload_n 0, 1) := by decide +kernel
theorem dX10_least_28 : decode cX10_least 28 = .ok (.iload_n 1, 1) := by decide +kernel
theorem dX10_least_29 : decode cX10_least 29 = .ok (.invokevirtual 358, 3) := by decide +kernel
theorem dX10_least_32 : decode cX10_least 32 = .ok (.iconst (-1), 1) := by decide +kernel
theorem dX10_least_33 : decode cX10_least 33 = .ok (.if_icmp .ne 7, 3) := by decide +kernel
theorem dX10_least_36 : decode cX10_least 36 = .ok (.iconst (-1), 1) := by decide +kernel
theorem dX10_least_37 : decode cX10_least 37 = .ok (.goto 9, 3) := by decide +kernel
theorem dX10_least_40 : decode cX10_least 40 = .ok (.aload_n 0, 1) := by decide +kernel
theorem dX10_least_41 : decode cX10_least 41 = .ok (.iload_n 1, 1) := by decide +kernel
theorem dX10_least_42 : decode cX10_least 42 = .ok (.iload_n 2, 1) := by decide +kernel
theorem dX10_least_43 : decode cX10_least 43 = .ok (.invokevirtual 361, 3) := by decide +kernel
theorem dX10_least_46 : decode cX10_least 46 = .ok (.ireturn, 1) := by decide +kernel
theorem dX10_lawful_0 : decode cX10_lawful 0 = .ok (.aload_n 0, 1) := by decide +kernel
theorem dX10_lawful_1 : decode cX10_lawful 1 = .ok (.invokevirtual 372, 3) := by decide +kernel
theorem dX10_lawful_4 : decode cX10_lawful 4 = .ok (.ifCond .ne 6, 3) := by decide +kernel
theorem dX10_lawful_7 : decode cX10_lawful 7 = .ok (.bipush (-2), 2) := by decide +kernel
theorem dX10_lawful_9 : decode cX10_lawful 9 = .ok (.ireturn, 1) := by decide +kernel
theorem dX10_lawful_10 : decode cX10_lawful 10 = .ok (.aload_n 0, 1) := by decide +kernel
theorem dX10_lawful_11 : decode cX10_lawful 11 = .ok (.invokevirtual 367, 3) := by decide +kernel
theorem dX10_lawful_14 : decode cX10_lawful 14 = .ok (.aload_n 0, 1) := by decide +kernel
theorem dX10_lawful_15 : decode cX10_lawful 15 = .ok (.invokevirtual 375, 3) := by decide +kernel
theorem dX10_lawful_18 : decode cX10_lawful 18 = .ok (.ireturn, 1) := by decide +kernel
theorem dX10_room_0 : decode cX10_room 0 = .ok (.aload_n 0, 1) := by decide +kernel
theorem dX10_room_1 : decode cX10_room 1 = .ok (.iload_n 1, 1) := by decide +kernel
theorem dX10_room_2 : decode cX10_room 2 = .ok (.invokevirtual 333, 3) := by decide +kernel
theorem dX10_room_5 : decode cX10_room 5 = .ok (.ifCond .ne 6, 3) := by decide +kernel
theorem dX10_room_8 : decode cX10_room 8 = .ok (.bipush (-2), 2) := by decide +kernel
theorem dX10_room_10 : decode cX10_room 10 = .ok (.ireturn, 1) := by decide +kernel
theorem dX10_room_11 : decode cX10_room 11 = .ok (.aload_n 0, 1) := by decide +kernel
theorem dX10_room_12 : decode cX10_room 12 = .ok (.invokevirtual 367, 3) := by decide +kernel
theorem dX10_room_15 : decode cX10_room 15 = .ok (.aload_n 0, 1) := by decide +kernel
theorem dX10_room_16 : decode cX10_room 16 = .ok (.invokevirtual 375, 3) := by decide +kernel
theorem dX10_room_19 : decode cX10_room 19 = .ok (.istore_n 2, 1) := by decide +kernel
theorem dX10_room_20 : decode cX10_room 20 = .ok (.iconst 0, 1) := by decide +kernel
theorem dX10_room_21 : decode cX10_room 21 = .ok (.istore_n 3, 1) := by decide +kernel
theorem dX10_room_22 : decode cX10_room 22 = .ok (.iconst 1, 1) := by decide +kernel
theorem dX10_room_23 : decode cX10_room 23 = .ok (.istore 4, 2) := by decide +kernel
theorem dX10_room_25 : decode cX10_room 25 = .ok (.iload 4, 2) := by decide +kernel
theorem dX10_room_27 : decode cX10_room 27 = .ok (.bipush 50, 2) := by decide +kernel
theorem dX10_room_29 : decode cX10_room 29 = .ok (.if_icmp .gt 49, 3) := by decide +kernel
theorem dX10_room_32 : decode cX10_room 32 = .ok (.aload_n 0, 1) := by decide +kernel
theorem dX10_room_33 : decode cX10_room 33 = .ok (.invokevirtual 367, 3) := by decide +kernel
theorem dX10_room_36 : decode cX10_room 36 = .ok (.aload_n 0, 1) := by decide +kernel
theorem dX10_room_37 : decode cX10_room 37 = .ok (.getfield 37, 3) := by decide +kernel
theorem dX10_room_40 : decode cX10_room 40 = .ok (.iload_n 1, 1) := by decide +kernel
theorem dX10_room_41 : decode cX10_room 41 = .ok (.dup2, 1) := by decide +kernel
theorem dX10_room_42 : decode cX10_room 42 = .ok (.iaload, 1) := by decide +kernel
theorem dX10_room_43 : decode cX10_room 43 = .ok (.iload 4, 2) := by decide +kernel
theorem dX10_room_45 : decode cX10_room 45 = .ok (.iadd, 1) := by decide +kernel
theorem dX10_room_46 : decode cX10_room 46 = .ok (.iastore, 1) := by decide +kernel
theorem dX10_room_47 : decode cX10_room 47 = .ok (.aload_n 0, 1) := by decide +kernel
theorem dX10_room_48 : decode cX10_room 48 = .ok (.getfield 40, 3) := by decide +kernel
theorem dX10_room_51 : decode cX10_room 51 = .ok (.iload_n 1, 1) := by decide +kernel
theorem dX10_room_52 : decode cX10_room 52 = .ok (.dup2, 1) := by decide +kernel
theorem dX10_room_53 : decode cX10_room 53 = .ok (.iaload, 1) := by decide +kernel
theorem dX10_room_54 : decode cX10_room 54 = .ok (.iload 4, 2) := by decide +kernel
theorem dX10_room_56 : decode cX10_room 56 = .ok (.iadd, 1) := by decide +kernel
theorem dX10_room_57 : decode cX10_room 57 = .ok (.iastore, 1) := by decide +kernel
theorem dX10_room_58 : decode cX10_room 58 = .ok (.iload_n 2, 1) := by decide +kernel
theorem dX10_room_59 : decode cX10_room 59 = .ok (.aload_n 0, 1) := by decide +kernel
theorem dX10_room_60 : decode cX10_room 60 = .ok (.invokevirtual 375, 3) := by decide +kernel
theorem dX10_room_63 : decode cX10_room 63 = .ok (.iconst (-1), 1) := by decide +kernel
theorem dX10_room_64 : decode cX10_room 64 = .ok (.ixor, 1) := by decide +kernel
theorem dX10_room_65 : decode cX10_room 65 = .ok (.iand, 1) := by decide +kernel
theorem dX10_room_66 : decode cX10_room 66 = .ok (.ifCond .ne 6, 3) := by decide +kernel
theorem dX10_room_69 : decode cX10_room 69 = .ok (.iload 4, 2) := by decide +kernel
theorem dX10_room_71 : decode cX10_room 71 = .ok (.istore_n 3, 1) := by decide +kernel
theorem dX10_room_72 : decode cX10_room 72 = .ok (.iinc 4 1, 3) := by decide +kernel
theorem dX10_room_75 : decode cX10_room 75 = .ok (.goto (-50), 3) := by decide +kernel
theorem dX10_room_78 : decode cX10_room 78 = .ok (.iload_n 3, 1) := by decide +kernel
theorem dX10_room_79 : decode cX10_room 79 = .ok (.ireturn, 1) := by decide +kernel
theorem dX10_goesOrders_0 : decode cX10_goesOrders 0 = .ok (.iload_n 1, 1) := by decide +kernel
theorem dX10_goesOrders_1 : decode cX10_goesOrders 1 = .ok (.aload_n 0, 1) := by decide +kernel
theorem dX10_goesOrders_2 : decode cX10_goesOrders 2 = .ok (.getfield 9, 3) := by decide +kernel
theorem dX10_goesOrders_5 : decode cX10_goesOrders 5 = .ok (.iconst 4, 1) := by decide +kernel
theorem dX10_goesOrders_6 : decode cX10_goesOrders 6 = .ok (.iaload, 1) := by decide +kernel
theorem dX10_goesOrders_7 : decode cX10_goesOrders 7 = .ok (.if_icmp .ne 64, 3) := by decide +kernel
theorem dX10_goesOrders_10 : decode cX10_goesOrders 10 = .ok (.aload_n 0, 1) := by decide +kernel
theorem dX10_goesOrders_11 : decode cX10_goesOrders 11 = .ok (.invokevirtual 375, 3) := by decide +kernel
theorem dX10_goesOrders_14 : decode cX10_goesOrders 14 = .ok (.iconst 1, 1) := by decide +kernel
theorem dX10_goesOrders_15 : decode cX10_goesOrders 15 = .ok (.aload_n 0, 1) := by decide +kernel
theorem dX10_goesOrders_16 : decode cX10_goesOrders 16 = .ok (.getfield 9, 3) := by decide +kernel
theorem dX10_goesOrders_19 : decode cX10_goesOrders 19 = .ok (.iconst 4, 1) := by decide +kernel
theorem dX10_goesOrders_20 : decode cX10_goesOrders 20 = .ok (.iaload, 1) := by decide +kernel
theorem dX10_goesOrders_21 : decode cX10_goesOrders 21 = .ok (.ishl, 1) := by decide +kernel
theorem dX10_goesOrders_22 : decode cX10_goesOrders 22 = .ok (.iconst 1, 1) := by decide +kernel
theorem dX10_goesOrders_23 : decode cX10_goesOrders 23 = .ok (.isub, 1) := by decide +kernel
theorem dX10_goesOrders_24 : decode cX10_goesOrders 24 = .ok (.if_icmp .eq 4, 3) := by decide +kernel
theorem dX10_goesOrders_27 : decode cX10_goesOrders 27 = .ok (.return_, 1) := by decide +kernel
theorem dX10_goesOrders_28 : decode cX10_goesOrders 28 = .ok (.aload_n 0, 1) := by decide +kernel
theorem dX10_goesOrders_29 : decode cX10_goesOrders 29 = .ok (.getfield 378, 3) := by decide +kernel
theorem dX10_goesOrders_32 : decode cX10_goesOrders 32 = .ok (.ifCond .ne 28, 3) := by decide +kernel
theorem dX10_goesOrders_35 : decode cX10_goesOrders 35 = .ok (.iconst 0, 1) := by decide +kernel
theorem dX10_goesOrders_36 : decode cX10_goesOrders 36 = .ok (.istore_n 3, 1) := by decide +kernel
theorem dX10_goesOrders_37 : decode cX10_goesOrders 37 = .ok (.iload_n 3, 1) := by decide +kernel
theorem dX10_goesOrders_38 : decode cX10_goesOrders 38 = .ok (.iload_n 1, 1) := by decide +kernel
theorem dX10_goesOrders_39 : decode cX10_goesOrders 39 = .ok (.if_icmp .ge 21, 3) := by decide +kernel
theorem dX10_goesOrders_42 : decode cX10_goesOrders 42 = .ok (.aload_n 0, 1) := by decide +kernel
theorem dX10_goesOrders_43 : decode cX10_goesOrders 43 = .ok (.getfield 49, 3) := by decide +kernel
theorem dX10_goesOrders_46 : decode cX10_goesOrders 46 = .ok (.iload_n 3, 1) := by decide +kernel
theorem dX10_goesOrders_47 : decode cX10_goesOrders 47 = .ok (.aload_n 0, 1) := by decide +kernel
theorem dX10_goesOrders_48 : decode cX10_goesOrders 48 = .ok (.getfield 46, 3) := by decide +kernel
theorem dX10_goesOrders_51 : decode cX10_goesOrders 51 = .ok (.iload_n 3, 1) := by decide +kernel
theorem dX10_goesOrders_52 : decode cX10_goesOrders 52 = .ok (.iaload, 1) := by decide +kernel
theorem dX10_goesOrders_53 : decode cX10_goesOrders 53 = .ok (.iastore, 1) := by decide +kernel
theorem dX10_goesOrders_54 : decode cX10_goesOrders 54 = .ok (.iinc 3 1, 3) := by decide +kernel
theorem dX10_goesOrders_57 : decode cX10_goesOrders 57 = .ok (.goto (-20), 3) := by decide +kernel
theorem dX10_goesOrders_60 : decode cX10_goesOrders 60 = .ok (.aload_n 0, 1) := by decide +kernel
theorem dX10_goesOrders_61 : decode cX10_goesOrders 61 = .ok (.dup, 1) := by decide +kernel
theorem dX10_goesOrders_62 : decode cX10_goesOrders 62 = .ok (.getfield 378, 3) := by decide +kernel
theorem dX10_goesOrders_65 : decode cX10_goesOrders 65 = .ok (.iconst 1, 1) := by decide +kernel
theorem dX10_goesOrders_66 : decode cX10_goesOrders 66 = .ok (.iadd, 1) := by decide +kernel
theorem dX10_goesOrders_67 : decode cX10_goesOrders 67 = .ok (.putfield 378, 3) := by decide +kernel
theorem dX10_goesOrders_70 : decode cX10_goesOrders 70 = .ok (.return_, 1) := by decide +kernel
theorem dX10_goesOrders_71 : decode cX10_goesOrders 71 = .ok (.iconst 0, 1) := by decide +kernel
theorem dX10_goesOrders_72 : decode cX10_goesOrders 72 = .ok (.istore_n 3, 1) := by decide +kernel
theorem dX10_goesOrders_73 : decode cX10_goesOrders 73 = .ok (.iload_n 3, 1) := by decide +kernel
theorem dX10_goesOrders_74 : decode cX10_goesOrders 74 = .ok (.aload_n 0, 1) := by decide +kernel
theorem dX10_goesOrders_75 : decode cX10_goesOrders 75 = .ok (.getfield 9, 3) := by decide +kernel
theorem dX10_goesOrders_78 : decode cX10_goesOrders 78 = .ok (.iconst 4, 1) := by decide +kernel
theorem dX10_goesOrders_79 : decode cX10_goesOrders 79 = .ok (.iaload, 1) := by decide +kernel
theorem dX10_goesOrders_80 : decode cX10_goesOrders 80 = .ok (.if_icmp .ge 47, 3) := by decide +kernel
theorem dX10_goesOrders_83 : decode cX10_goesOrders 83 = .ok (.iload_n 2, 1) := by decide +kernel
theorem dX10_goesOrders_84 : decode cX10_goesOrders 84 = .ok (.iload_n 3, 1) := by decide +kernel
theorem dX10_goesOrders_85 : decode cX10_goesOrders 85 = .ok (.ishr, 1) := by decide +kernel
theorem dX10_goesOrders_86 : decode cX10_goesOrders 86 = .ok (.iconst 1, 1) := by decide +kernel
theorem dX10_goesOrders_87 : decode cX10_goesOrders 87 = .ok (.iand, 1) := by decide +kernel
theorem dX10_goesOrders_88 : decode cX10_goesOrders 88 = .ok (.iconst 1, 1) := by decide +kernel
theorem dX10_goesOrders_89 : decode cX10_goesOrders 89 = .ok (.if_icmp .ne 6, 3) := by decide +kernel
theorem dX10_goesOrders_92 : decode cX10_goesOrders 92 = .ok (.goto 29, 3) := by decide +kernel
theorem dX10_goesOrders_95 : decode cX10_goesOrders 95 = .ok (.aload_n 0, 1) := by decide +kernel
theorem dX10_goesOrders_96 : decode cX10_goesOrders 96 = .ok (.getfield 46, 3) := by decide +kernel
theorem dX10_goesOrders_99 : decode cX10_goesOrders 99 = .ok (.iload_n 1, 1) := by decide +kernel
theorem dX10_goesOrders_100 : decode cX10_goesOrders 100 = .ok (.iload_n 3, 1) := by decide +kernel
theorem dX10_goesOrders_101 : decode cX10_goesOrders 101 = .ok (.iastore, 1) := by decide +kernel
theorem dX10_goesOrders_102 : decode cX10_goesOrders 102 = .ok (.aload_n 0, 1) := by decide +kernel
theorem dX10_goesOrders_103 : decode cX10_goesOrders 103 = .ok (.getfield 43, 3) := by decide +kernel
theorem dX10_goesOrders_106 : decode cX10_goesOrders 106 = .ok (.iload_n 3, 1) := by decide +kernel
theorem dX10_goesOrders_107 : decode cX10_goesOrders 107 = .ok (.iload_n 2, 1) := by decide +kernel
theorem dX10_goesOrders_108 : decode cX10_goesOrders 108 = .ok (.iastore, 1) := by decide +kernel
theorem dX10_goesOrders_109 : decode cX10_goesOrders 109 = .ok (.aload_n 0, 1) := by decide +kernel
theorem dX10_goesOrders_110 : decode cX10_goesOrders 110 = .ok (.iload_n 1, 1) := by decide +kernel
theorem dX10_goesOrders_111 : decode cX10_goesOrders 111 = .ok (.iconst 1, 1) := by decide +kernel
theorem dX10_goesOrders_112 : decode cX10_goesOrders 112 = .ok (.iadd, 1) := by decide +kernel
theorem dX10_goesOrders_113 : decode cX10_goesOrders 113 = .ok (.iload_n 2, 1) := by decide +kernel
theorem dX10_goesOrders_114 : decode cX10_goesOrders 114 = .ok (.iconst 1, 1) := by decide +kernel
theorem dX10_goesOrders_115 : decode cX10_goesOrders 115 = .ok (.iload_n 3, 1) := by decide +kernel
theorem dX10_goesOrders_116 : decode cX10_goesOrders 116 = .ok (.ishl, 1) := by decide +kernel
theorem dX10_goesOrders_117 : decode cX10_goesOrders 117 = .ok (.ior, 1) := by decide +kernel
theorem dX10_goesOrders_118 : decode cX10_goesOrders 118 = .ok (.invokevirtual 381, 3) := by decide +kernel
theorem dX10_goesOrders_121 : decode cX10_goesOrders 121 = .ok (.iinc 3 1, 3) := by decide +kernel
theorem dX10_goesOrders_124 : decode cX10_goesOrders 124 = .ok (.goto (-51), 3) := by decide +kernel
theorem dX10_goesOrders_127 : decode cX10_goesOrders 127 = .ok (.return_, 1) := by decide +kernel
theorem dX10_laysOrders_0 : decode cX10_laysOrders 0 = .ok (.aload_n 0, 1) := by decide +kernel
theorem dX10_laysOrders_1 : decode cX10_laysOrders 1 = .ok (.invokevirtual 367, 3) := by decide +kernel
theorem dX10_laysOrders_4 : decode cX10_laysOrders 4 = .ok (.aload_n 0, 1) := by decide +kernel
theorem dX10_laysOrders_5 : decode cX10_laysOrders 5 = .ok (.iconst 0, 1) := by decide +kernel
theorem dX10_laysOrders_6 : decode cX10_laysOrders 6 = .ok (.putfield 378, 3) := by decide +kernel
theorem dX10_laysOrders_9 : decode cX10_laysOrders 9 = .ok (.aload_n 0, 1) := by decide +kernel
theorem dX10_laysOrders_10 : decode cX10_laysOrders 10 = .ok (.iconst 0, 1) := by decide +kernel
theorem dX10_laysOrders_11 : decode cX10_laysOrders 11 = .ok (.iconst 0, 1) := by decide +kernel
theorem dX10_laysOrders_12 : decode cX10_laysOrders 12 = .ok (.invokevirtual 381, 3) := by decide +kernel
theorem dX10_laysOrders_15 : decode cX10_laysOrders 15 = .ok (.return_, 1) := by decide +kernel
theorem dX10_orders_0 : decode cX10_orders 0 = .ok (.aload_n 0, 1) := by decide +kernel
theorem dX10_orders_1 : decode cX10_orders 1 = .ok (.invokevirtual 372, 3) := by decide +kernel
theorem dX10_orders_4 : decode cX10_orders 4 = .ok (.ifCond .ne 6, 3) := by decide +kernel
theorem dX10_orders_7 : decode cX10_orders 7 = .ok (.bipush (-2), 2) := by decide +kernel
theorem dX10_orders_9 : decode cX10_orders 9 = .ok (.ireturn, 1) := by decide +kernel
theorem dX10_orders_10 : decode cX10_orders 10 = .ok (.aload_n 0, 1) := by decide +kernel
theorem dX10_orders_11 : decode cX10_orders 11 = .ok (.invokevirtual 385, 3) := by decide +kernel
theorem dX10_orders_14 : decode cX10_orders 14 = .ok (.aload_n 0, 1) := by decide +kernel
theorem dX10_orders_15 : decode cX10_orders 15 = .ok (.getfield 378, 3) := by decide +kernel
theorem dX10_orders_18 : decode cX10_orders 18 = .ok (.ireturn, 1) := by decide +kernel
theorem dX10_order_0 : decode cX10_order 0 = .ok (.aload_n 0, 1) := by decide +kernel
theorem dX10_order_1 : decode cX10_order 1 = .ok (.invokevirtual 372, 3) := by decide +kernel
theorem dX10_order_4 : decode cX10_order 4 = .ok (.ifCond .ne 6, 3) := by decide +kernel
theorem dX10_order_7 : decode cX10_order 7 = .ok (.bipush (-2), 2) := by decide +kernel
theorem dX10_order_9 : decode cX10_order 9 = .ok (.ireturn, 1) := by decide +kernel
theorem dX10_order_10 : decode cX10_order 10 = .ok (.aload_n 0, 1) := by decide +kernel
theorem dX10_order_11 : decode cX10_order 11 = .ok (.invokevirtual 385, 3) := by decide +kernel
theorem dX10_order_14 : decode cX10_order 14 = .ok (.aload_n 0, 1) := by decide +kernel
theorem dX10_order_15 : decode cX10_order 15 = .ok (.getfield 378, 3) := by decide +kernel
theorem dX10_order_18 : decode cX10_order 18 = .ok (.ifCond .le 30, 3) := by decide +kernel
theorem dX10_order_21 : decode cX10_order 21 = .ok (.iload_n 1, 1) := by decide +kernel
theorem dX10_order_22 : decode cX10_order 22 = .ok (.i2l, 1) := by decide +kernel
theorem dX10_order_23 : decode cX10_order 23 = .ok (.lconst 0, 1) := by decide +kernel
theorem dX10_order_24 : decode cX10_order 24 = .ok (.aload_n 0, 1) := by decide +kernel
theorem dX10_order_25 : decode cX10_order 25 = .ok (.getfield 9, 3) := by decide +kernel
theorem dX10_order_28 : decode cX10_order 28 = .ok (.iconst 4, 1) := by decide +kernel
theorem dX10_order_29 : decode cX10_order 29 = .ok (.iaload, 1) := by decide +kernel
theorem dX10_order_30 : decode cX10_order 30 = .ok (.iconst 1, 1) := by decide +kernel
theorem dX10_order_31 : decode cX10_order 31 = .ok (.isub, 1) := by decide +kernel
theorem dX10_order_32 : decode cX10_order 32 = .ok (.i2l, 1) := by decide +kernel
theorem dX10_order_33 : decode cX10_order 33 = .ok (.invokestatic 152, 3) := by decide +kernel
theorem dX10_order_36 : decode cX10_order 36 = .ok (.ifCond .eq 12, 3) := by decide +kernel
theorem dX10_order_39 : decode cX10_order 39 = .ok (.aload_n 0, 1) := by decide +kernel
theorem dX10_order_40 : decode cX10_order 40 = .ok (.getfield 49, 3) := by decide +kernel
theorem dX10_order_43 : decode cX10_order 43 = .ok (.iload_n 1, 1) := by decide +kernel
theorem dX10_order_44 : decode cX10_order 44 = .ok (.iaload, 1) := by decide +kernel
theorem dX10_order_45 : decode cX10_order 45 = .ok (.goto 4, 3) := by decide +kernel
theorem dX10_order_48 : decode cX10_order 48 = .ok (.iconst (-1), 1) := by decide +kernel
theorem dX10_order_49 : decode cX10_order 49 = .ok (.ireturn, 1) := by decide +kernel
theorem dX10_load_0 : decode cX10_load 0 = .ok (.aload_n 0, 1) := by decide +kernel
theorem dX10_load_1 : decode cX10_load 1 = .ok (.invokevirtual 372, 3) := by decide +kernel
theorem dX10_load_4 : decode cX10_load 4 = .ok (.ifCond .ne 6, 3) := by decide +kernel
theorem dX10_load_7 : decode cX10_load 7 = .ok (.bipush (-2), 2) := by decide +kernel
theorem dX10_load_9 : decode cX10_load 9 = .ok (.ireturn, 1) := by decide +kernel
theorem dX10_load_10 : decode cX10_load 10 = .ok (.aload_n 0, 1) := by decide +kernel
theorem dX10_load_11 : decode cX10_load 11 = .ok (.invokevirtual 367, 3) := by decide +kernel
theorem dX10_load_14 : decode cX10_load 14 = .ok (.fconst 0, 1) := by decide +kernel
theorem dX10_load_15 : decode cX10_load 15 = .ok (.fstore_n 1, 1) := by decide +kernel
theorem dX10_load_16 : decode cX10_load 16 = .ok (.iconst 0, 1) := by decide +kernel
theorem dX10_load_17 : decode cX10_load 17 = .ok (.istore_n 2, 1) := by decide +kernel
theorem dX10_load_18 : decode cX10_load 18 = .ok (.iload_n 2, 1) := by decide +kernel
theorem dX10_load_19 : decode cX10_load 19 = .ok (.aload_n 0, 1) := by decide +kernel
theorem dX10_load_20 : decode cX10_load 20 = .ok (.getfield 9, 3) := by decide +kernel
theorem dX10_load_23 : decode cX10_load 23 = .ok (.iconst 4, 1) := by decide +kernel
theorem dX10_load_24 : decode cX10_load 24 = .ok (.iaload, 1) := by decide +kernel
theorem dX10_load_25 : decode cX10_load 25 = .ok (.if_icmp .ge 26, 3) := by decide +kernel
theorem dX10_load_28 : decode cX10_load 28 = .ok (.fload_n 1, 1) := by decide +kernel
theorem dX10_load_29 : decode cX10_load 29 = .ok (.aload_n 0, 1) := by decide +kernel
theorem dX10_load_30 : decode cX10_load 30 = .ok (.getfield 37, 3) := by decide +kernel
theorem dX10_load_33 : decode cX10_load 33 = .ok (.iload_n 2, 1) := by decide +kernel
theorem dX10_load_34 : decode cX10_load 34 = .ok (.iaload, 1) := by decide +kernel
theorem dX10_load_35 : decode cX10_load 35 = .ok (.i2f, 1) := by decide +kernel
theorem dX10_load_36 : decode cX10_load 36 = .ok (.aload_n 0, 1) := by decide +kernel
theorem dX10_load_37 : decode cX10_load 37 = .ok (.iload_n 2, 1) := by decide +kernel
theorem dX10_load_38 : decode cX10_load 38 = .ok (.invokevirtual 356, 3) := by decide +kernel
theorem dX10_load_41 : decode cX10_load 41 = .ok (.i2f, 1) := by decide +kernel
theorem dX10_load_42 : decode cX10_load 42 = .ok (.fdiv, 1) := by decide +kernel
theorem dX10_load_43 : decode cX10_load 43 = .ok (.fadd, 1) := by decide +kernel
theorem dX10_load_44 : decode cX10_load 44 = .ok (.fstore_n 1, 1) := by decide +kernel
theorem dX10_load_45 : decode cX10_load 45 = .ok (.iinc 2 1, 3) := by decide +kernel
theorem dX10_load_48 : decode cX10_load 48 = .ok (.goto (-30), 3) := by decide +kernel
theorem dX10_load_51 : decode cX10_load 51 = .ok (.fload_n 1, 1) := by decide +kernel
theorem dX10_load_52 : decode cX10_load 52 = .ok (.invokestatic 388, 3) := by decide +kernel
theorem dX10_load_55 : decode cX10_load 55 = .ok (.ireturn, 1) := by decide +kernel
theorem dX10_answered_0 : decode cX10_answered 0 = .ok (.iconst 5, 1) := by decide +kernel
theorem dX10_answered_1 : decode cX10_answered 1 = .ok (.iload_n 0, 1) := by decide +kernel
theorem dX10_answered_2 : decode cX10_answered 2 = .ok (.imul, 1) := by decide +kernel
theorem dX10_answered_3 : decode cX10_answered 3 = .ok (.iload_n 1, 1) := by decide +kernel
theorem dX10_answered_4 : decode cX10_answered 4 = .ok (.iadd, 1) := by decide +kernel
theorem dX10_answered_5 : decode cX10_answered 5 = .ok (.iconst 1, 1) := by decide +kernel
theorem dX10_answered_6 : decode cX10_answered 6 = .ok (.iadd, 1) := by decide +kernel
theorem dX10_answered_7 : decode cX10_answered 7 = .ok (.bipush 64, 2) := by decide +kernel
theorem dX10_answered_9 : decode cX10_answered 9 = .ok (.irem, 1) := by decide +kernel
theorem dX10_answered_10 : decode cX10_answered 10 = .ok (.ireturn, 1) := by decide +kernel
theorem dX10_path_0 : decode cX10_path 0 = .ok (.aload_n 0, 1) := by decide +kernel
theorem dX10_path_1 : decode cX10_path 1 = .ok (.iload_n 1, 1) := by decide +kernel
theorem dX10_path_2 : decode cX10_path 2 = .ok (.invokevirtual 333, 3) := by decide +kernel
theorem dX10_path_5 : decode cX10_path 5 = .ok (.ifCond .eq 19, 3) := by decide +kernel
theorem dX10_path_8 : decode cX10_path 8 = .ok (.iload_n 2, 1) := by decide +kernel
theorem dX10_path_9 : decode cX10_path 9 = .ok (.i2l, 1) := by decide +kernel
theorem dX10_path_10 : decode cX10_path 10 = .ok (.lconst 0, 1) := by decide +kernel
theorem dX10_path_11 : decode cX10_path 11 = .ok (.ldc2_w 394, 3) := by decide +kernel
theorem dX10_path_14 : decode cX10_path 14 = .ok (.invokestatic 152, 3) := by decide +kernel
theorem dX10_path_17 : decode cX10_path 17 = .ok (.ifCond .eq 7, 3) := by decide +kernel
theorem dX10_path_20 : decode cX10_path 20 = .ok (.iload_n 3, 1) := by decide +kernel
theorem dX10_path_21 : decode cX10_path 21 = .ok (.ifCond .ge 6, 3) := by decide +kernel
theorem dX10_path_24 : decode cX10_path 24 = .ok (.bipush (-2), 2) := by decide +kernel
theorem dX10_path_26 : decode cX10_path 26 = .ok (.ireturn, 1) := by decide +kernel
theorem dX10_path_27 : decode cX10_path 27 = .ok (.iconst 0, 1) := by decide +kernel
theorem dX10_path_28 : decode cX10_path 28 = .ok (.istore 4, 2) := by decide +kernel
theorem dX10_path_30 : decode cX10_path 30 = .ok (.iconst 0, 1) := by decide +kernel
theorem dX10_path_31 : decode cX10_path 31 = .ok (.istore 5, 2) := by decide +kernel
theorem dX10_path_33 : decode cX10_path 33 = .ok (.iload 5, 2) := by decide +kernel
theorem dX10_path_35 : decode cX10_path 35 = .ok (.iload_n 3, 1) := by decide +kernel
theorem dX10_path_36 : decode cX10_path 36 = .ok (.if_icmp .ge 39, 3) := by decide +kernel
theorem dX10_path_39 : decode cX10_path 39 = .ok (.aload_n 0, 1) := by decide +kernel
theorem dX10_path_40 : decode cX10_path 40 = .ok (.iload_n 1, 1) := by decide +kernel
theorem dX10_path_41 : decode cX10_path 41 = .ok (.iload 4, 2) := by decide +kernel
theorem dX10_path_43 : decode cX10_path 43 = .ok (.invokevirtual 324, 3) := by decide +kernel
theorem dX10_path_46 : decode cX10_path 46 = .ok (.ifCond .ne 5, 3) := by decide +kernel
theorem dX10_path_49 : decode cX10_path 49 = .ok (.iconst (-1), 1) := by decide +kernel
theorem dX10_path_50 : decode cX10_path 50 = .ok (.ireturn, 1) := by decide +kernel
theorem dX10_path_51 : decode cX10_path 51 = .ok (.aload_n 0, 1) := by decide +kernel
theorem dX10_path_52 : decode cX10_path 52 = .ok (.iload_n 1, 1) := by decide +kernel
theorem dX10_path_53 : decode cX10_path 53 = .ok (.iload 4, 2) := by decide +kernel
theorem dX10_path_55 : decode cX10_path 55 = .ok (.iload_n 2, 1) := by decide +kernel
theorem dX10_path_56 : decode cX10_path 56 = .ok (.aload_n 0, 1) := by decide +kernel
theorem dX10_path_57 : decode cX10_path 57 = .ok (.iload_n 1, 1) := by decide +kernel
theorem dX10_path_58 : decode cX10_path 58 = .ok (.iload 4, 2) := by decide +kernel
theorem dX10_path_60 : decode cX10_path 60 = .ok (.invokevirtual 324, 3) := by decide +kernel
theorem dX10_path_63 : decode cX10_path 63 = .ok (.irem, 1) := by decide +kernel
theorem dX10_path_64 : decode cX10_path 64 = .ok (.invokevirtual 396, 3) := by decide +kernel
theorem dX10_path_67 : decode cX10_path 67 = .ok (.istore 4, 2) := by decide +kernel
theorem dX10_path_69 : decode cX10_path 69 = .ok (.iinc 5 1, 3) := by decide +kernel
theorem dX10_path_72 : decode cX10_path 72 = .ok (.goto (-39), 3) := by decide +kernel
theorem dX10_path_75 : decode cX10_path 75 = .ok (.iload 4, 2) := by decide +kernel
theorem dX10_path_77 : decode cX10_path 77 = .ok (.ireturn, 1) := by decide +kernel
theorem dX10_answer_0 : decode cX10_answer 0 = .ok (.aload_n 0, 1) := by decide +kernel
theorem dX10_answer_1 : decode cX10_answer 1 = .ok (.iload_n 1, 1) := by decide +kernel
theorem dX10_answer_2 : decode cX10_answer 2 = .ok (.invokevirtual 333, 3) := by decide +kernel
theorem dX10_answer_5 : decode cX10_answer 5 = .ok (.ifCond .eq 27, 3) := by decide +kernel
theorem dX10_answer_8 : decode cX10_answer 8 = .ok (.iload_n 2, 1) := by decide +kernel
theorem dX10_answer_9 : decode cX10_answer 9 = .ok (.i2l, 1) := by decide +kernel
theorem dX10_answer_10 : decode cX10_answer 10 = .ok (.lconst 0, 1) := by decide +kernel
theorem dX10_answer_11 : decode cX10_answer 11 = .ok (.ldc2_w 394, 3) := by decide +kernel
theorem dX10_answer_14 : decode cX10_answer 14 = .ok (.invokestatic 152, 3) := by decide +kernel
theorem dX10_answer_17 : decode cX10_answer 17 = .ok (.ifCond .eq 15, 3) := by decide +kernel
theorem dX10_answer_20 : decode cX10_answer 20 = .ok (.iload_n 3, 1) := by decide +kernel
theorem dX10_answer_21 : decode cX10_answer 21 = .ok (.i2l, 1) := by decide +kernel
theorem dX10_answer_22 : decode cX10_answer 22 = .ok (.lconst 0, 1) := by decide +kernel
theorem dX10_answer_23 : decode cX10_answer 23 = .ok (.ldc2_w 400, 3) := by decide +kernel
theorem dX10_answer_26 : decode cX10_answer 26 = .ok (.invokestatic 152, 3) := by decide +kernel
theorem dX10_answer_29 : decode cX10_answer 29 = .ok (.ifCond .ne 6, 3) := by decide +kernel
theorem dX10_answer_32 : decode cX10_answer 32 = .ok (.bipush (-2), 2) := by decide +kernel
theorem dX10_answer_34 : decode cX10_answer 34 = .ok (.ireturn, 1) := by decide +kernel
theorem dX10_answer_35 : decode cX10_answer 35 = .ok (.iconst 0, 1) := by decide +kernel
theorem dX10_answer_36 : decode cX10_answer 36 = .ok (.istore 4, 2) := by decide +kernel
theorem dX10_answer_38 : decode cX10_answer 38 = .ok (.iload_n 3, 1) := by decide +kernel
theorem dX10_answer_39 : decode cX10_answer 39 = .ok (.iconst 0, 1) := by decide +kernel
theorem dX10_answer_40 : decode cX10_answer 40 = .ok (.invokestatic 402, 3) := by decide +kernel
theorem dX10_answer_43 : decode cX10_answer 43 = .ok (.istore 5, 2) := by decide +kernel
theorem dX10_answer_45 : decode cX10_answer 45 = .ok (.aload_n 0, 1) := by decide +kernel
theorem dX10_answer_46 : decode cX10_answer 46 = .ok (.iload_n 1, 1) := by decide +kernel
theorem dX10_answer_47 : decode cX10_answer 47 = .ok (.iload 4, 2) := by decide +kernel
theorem dX10_answer_49 : decode cX10_answer 49 = .ok (.invokevirtual 324, 3) := by decide +kernel
theorem dX10_answer_52 : decode cX10_answer 52 = .ok (.ifCond .le 33, 3) := by decide +kernel
theorem dX10_answer_55 : decode cX10_answer 55 = .ok (.aload_n 0, 1) := by decide +kernel
theorem dX10_answer_56 : decode cX10_answer 56 = .ok (.iload_n 1, 1) := by decide +kernel
theorem dX10_answer_57 : decode cX10_answer 57 = .ok (.iload 4, 2) := by decide +kernel
theorem dX10_answer_59 : decode cX10_answer 59 = .ok (.iload_n 2, 1) := by decide +kernel
theorem dX10_answer_60 : decode cX10_answer 60 = .ok (.aload_n 0, 1) := by decide +kernel
theorem dX10_answer_61 : decode cX10_answer 61 = .ok (.iload_n 1, 1) := by decide +kernel
theorem dX10_answer_62 : decode cX10_answer 62 = .ok (.iload 4, 2) := by decide +kernel
theorem dX10_answer_64 : decode cX10_answer 64 = .ok (.invokevirtual 324, 3) := by decide +kernel
theorem dX10_answer_67 : decode cX10_answer 67 = .ok (.irem, 1) := by decide +kernel
theorem dX10_answer_68 : decode cX10_answer 68 = .ok (.invokevirtual 396, 3) := by decide +kernel
theorem dX10_answer_71 : decode cX10_answer 71 = .ok (.istore 4, 2) := by decide +kernel
theorem dX10_answer_73 : decode cX10_answer 73 = .ok (.iload 5, 2) := by decide +kernel
theorem dX10_answer_75 : decode cX10_answer 75 = .ok (.iload 4, 2) := by decide +kernel
theorem dX10_answer_77 : decode cX10_answer 77 = .ok (.invokestatic 402, 3) := by decide +kernel
theorem dX10_answer_80 : decode cX10_answer 80 = .ok (.istore 5, 2) := by decide +kernel
theorem dX10_answer_82 : decode cX10_answer 82 = .ok (.goto (-37), 3) := by decide +kernel
theorem dX10_answer_85 : decode cX10_answer 85 = .ok (.iload 5, 2) := by decide +kernel
theorem dX10_answer_87 : decode cX10_answer 87 = .ok (.ireturn, 1) := by decide +kernel
theorem dX10_goesWays_0 : decode cX10_goesWays 0 = .ok (.iload_n 3, 1) := by decide +kernel
theorem dX10_goesWays_1 : decode cX10_goesWays 1 = .ok (.iload_n 2, 1) := by decide +kernel
theorem dX10_goesWays_2 : decode cX10_goesWays 2 = .ok (.invokestatic 402, 3) := by decide +kernel
theorem dX10_goesWays_5 : decode cX10_goesWays 5 = .ok (.istore 4, 2) := by decide +kernel
theorem dX10_goesWays_7 : decode cX10_goesWays 7 = .ok (.aload_n 0, 1) := by decide +kernel
theorem dX10_goesWays_8 : decode cX10_goesWays 8 = .ok (.iload_n 1, 1) := by decide +kernel
theorem dX10_goesWays_9 : decode cX10_goesWays 9 = .ok (.iload_n 2, 1) := by decide +kernel
theorem dX10_goesWays_10 : decode cX10_goesWays 10 = .ok (.invokevirtual 324, 3) := by decide +kernel
theorem dX10_goesWays_13 : decode cX10_goesWays 13 = .ok (.ifCond .ne 14, 3) := by decide +kernel
theorem dX10_goesWays_16 : decode cX10_goesWays 16 = .ok (.aload_n 0, 1) := by decide +kernel
theorem dX10_goesWays_17 : decode cX10_goesWays 17 = .ok (.getfield 52, 3) := by decide +kernel
theorem dX10_goesWays_20 : decode cX10_goesWays 20 = .ok (.iload 4, 2) := by decide +kernel
theorem dX10_goesWays_22 : decode cX10_goesWays 22 = .ok (.dup2, 1) := by decide +kernel
theorem dX10_goesWays_23 : decode cX10_goesWays 23 = .ok (.iaload, 1) := by decide +kernel
theorem dX10_goesWays_24 : decode cX10_goesWays 24 = .ok (.iconst 1, 1) := by decide +kernel
theorem dX10_goesWays_25 : decode cX10_goesWays 25 = .ok (.iadd, 1) := by decide +kernel
theorem dX10_goesWays_26 : decode cX10_goesWays 26 = .ok (.iastore, 1) := by decide +kernel
theorem dX10_goesWays_27 : decode cX10_goesWays 27 = .ok (.iload_n 2, 1) := by decide +kernel
theorem dX10_goesWays_28 : decode cX10_goesWays 28 = .ok (.iconst 1, 1) := by decide +kernel
theorem dX10_goesWays_29 : decode cX10_goesWays 29 = .ok (.iadd, 1) := by decide +kernel
theorem dX10_goesWays_30 : decode cX10_goesWays 30 = .ok (.istore 5, 2) := by decide +kernel
theorem dX10_goesWays_32 : decode cX10_goesWays 32 = .ok (.iload 5, 2) := by decide +kernel
theorem dX10_goesWays_34 : decode cX10_goesWays 34 = .ok (.aload_n 0, 1) := by decide +kernel
theorem dX10_goesWays_35 : decode cX10_goesWays 35 = .ok (.iload_n 1, 1) := by decide +kernel
theorem dX10_goesWays_36 : decode cX10_goesWays 36 = .ok (.invokevirtual 317, 3) := by decide +kernel
theorem dX10_goesWays_39 : decode cX10_goesWays 39 = .ok (.if_icmp .ge 29, 3) := by decide +kernel
theorem dX10_goesWays_42 : decode cX10_goesWays 42 = .ok (.aload_n 0, 1) := by decide +kernel
theorem dX10_goesWays_43 : decode cX10_goesWays 43 = .ok (.iload_n 1, 1) := by decide +kernel
theorem dX10_goesWays_44 : decode cX10_goesWays 44 = .ok (.iload 5, 2) := by decide +kernel
theorem dX10_goesWays_46 : decode cX10_goesWays 46 = .ok (.iload_n 2, 1) := by decide +kernel
theorem dX10_goesWays_47 : decode cX10_goesWays 47 = .ok (.invokevirtual 320, 3) := by decide +kernel
theorem dX10_goesWays_50 : decode cX10_goesWays 50 = .ok (.ifCond .eq 12, 3) := by decide +kernel
theorem dX10_goesWays_53 : decode cX10_goesWays 53 = .ok (.aload_n 0, 1) := by decide +kernel
theorem dX10_goesWays_54 : decode cX10_goesWays 54 = .ok (.iload_n 1, 1) := by decide +kernel
theorem dX10_goesWays_55 : decode cX10_goesWays 55 = .ok (.iload 5, 2) := by decide +kernel
theorem dX10_goesWays_57 : decode cX10_goesWays 57 = .ok (.iload 4, 2) := by decide +kernel
theorem dX10_goesWays_59 : decode cX10_goesWays 59 = .ok (.invokevirtual 405, 3) := by decide +kernel
theorem dX10_goesWays_62 : decode cX10_goesWays 62 = .ok (.iinc 5 1, 3) := by decide +kernel
theorem dX10_goesWays_65 : decode cX10_goesWays 65 = .ok (.goto (-33), 3) := by decide +kernel
theorem dX10_goesWays_68 : decode cX10_goesWays 68 = .ok (.return_, 1) := by decide +kernel
theorem dX10_alike_0 : decode cX10_alike 0 = .ok (.aload_n 0, 1) := by decide +kernel
theorem dX10_alike_1 : decode cX10_alike 1 = .ok (.iload_n 1, 1) := by decide +kernel
theorem dX10_alike_2 : decode cX10_alike 2 = .ok (.invokevirtual 333, 3) := by decide +kernel
theorem dX10_alike_5 : decode cX10_alike 5 = .ok (.ifCond .eq 15, 3) := by decide +kernel
theorem dX10_alike_8 : decode cX10_alike 8 = .ok (.iload_n 2, 1) := by decide +kernel
theorem dX10_alike_9 : decode cX10_alike 9 = .ok (.i2l, 1) := by decide +kernel
theorem dX10_alike_10 : decode cX10_alike 10 = .ok (.lconst 0, 1) := by decide +kernel
theorem dX10_alike_11 : decode cX10_alike 11 = .ok (.ldc2_w 400, 3) := by decide +kernel
theorem dX10_alike_14 : decode cX10_alike 14 = .ok (.invokestatic 152, 3) := by decide +kernel
theorem dX10_alike_17 : decode cX10_alike 17 = .ok (.ifCond .ne 6, 3) := by decide +kernel
theorem dX10_alike_20 : decode cX10_alike 20 = .ok (.bipush (-2), 2) := by decide +kernel
theorem dX10_alike_22 : decode cX10_alike 22 = .ok (.ireturn, 1) := by decide +kernel
theorem dX10_alike_23 : decode cX10_alike 23 = .ok (.iconst 0, 1) := by decide +kernel
theorem dX10_alike_24 : decode cX10_alike 24 = .ok (.istore_n 3, 1) := by decide +kernel
theorem dX10_alike_25 : decode cX10_alike 25 = .ok (.iload_n 3, 1) := by decide +kernel
theorem dX10_alike_26 : decode cX10_alike 26 = .ok (.bipush 64, 2) := by decide +kernel
theorem dX10_alike_28 : decode cX10_alike 28 = .ok (.if_icmp .ge 16, 3) := by decide +kernel
theorem dX10_alike_31 : decode cX10_alike 31 = .ok (.aload_n 0, 1) := by decide +kernel
theorem dX10_alike_32 : decode cX10_alike 32 = .ok (.getfield 52, 3) := by decide +kernel
theorem dX10_alike_35 : decode cX10_alike 35 = .ok (.iload_n 3, 1) := by decide +kernel
theorem dX10_alike_36 : decode cX10_alike 36 = .ok (.iconst 0, 1) := by decide +kernel
theorem dX10_alike_37 : decode cX10_alike 37 = .ok (.iastore, 1) := by decide +kernel
theorem dX10_alike_38 : decode cX10_alike 38 = .ok (.iinc 3 1, 3) := by decide +kernel
theorem dX10_alike_41 : decode cX10_alike 41 = .ok (.goto (-16), 3) := by decide +kernel
theorem dX10_alike_44 : decode cX10_alike 44 = .ok (.aload_n 0, 1) := by decide +kernel
theorem dX10_alike_45 : decode cX10_alike 45 = .ok (.iload_n 1, 1) := by decide +kernel
theorem dX10_alike_46 : decode cX10_alike 46 = .ok (.iconst 0, 1) := by decide +kernel
theorem dX10_alike_47 : decode cX10_alike 47 = .ok (.iload_n 2, 1) := by decide +kernel
theorem dX10_alike_48 : decode cX10_alike 48 = .ok (.invokevirtual 405, 3) := by decide +kernel
theorem dX10_alike_51 : decode cX10_alike 51 = .ok (.iconst 0, 1) := by decide +kernel
theorem dX10_alike_52 : decode cX10_alike 52 = .ok (.istore_n 3, 1) := by decide +kernel
theorem dX10_alike_53 : decode cX10_alike 53 = .ok (.iconst 0, 1) := by decide +kernel
theorem dX10_alike_54 : decode cX10_alike 54 = .ok (.istore 4, 2) := by decide +kernel
theorem dX10_alike_56 : decode cX10_alike 56 = .ok (.iload 4, 2) := by decide +kernel
theorem dX10_alike_58 : decode cX10_alike 58 = .ok (.bipush 64, 2) := by decide +kernel
theorem dX10_alike_60 : decode cX10_alike 60 = .ok (.if_icmp .ge 31, 3) := by decide +kernel
theorem dX10_alike_63 : decode cX10_alike 63 = .ok (.iload_n 3, 1) := by decide +kernel
theorem dX10_alike_64 : decode cX10_alike 64 = .ok (.aload_n 0, 1) := by decide +kernel
theorem dX10_alike_65 : decode cX10_alike 65 = .ok (.getfield 52, 3) := by decide +kernel
theorem dX10_alike_68 : decode cX10_alike 68 = .ok (.iload 4, 2) := by decide +kernel
theorem dX10_alike_70 : decode cX10_alike 70 = .ok (.iaload, 1) := by decide +kernel
theorem dX10_alike_71 : decode cX10_alike 71 = .ok (.aload_n 0, 1) := by decide +kernel
theorem dX10_alike_72 : decode cX10_alike 72 = .ok (.getfield 52, 3) := by decide +kernel
theorem dX10_alike_75 : decode cX10_alike 75 = .ok (.iload 4, 2) := by decide +kernel
theorem dX10_alike_77 : decode cX10_alike 77 = .ok (.iaload, 1) := by decide +kernel
theorem dX10_alike_78 : decode cX10_alike 78 = .ok (.iconst 1, 1) := by decide +kernel
theorem dX10_alike_79 : decode cX10_alike 79 = .ok (.isub, 1) := by decide +kernel
theorem dX10_alike_80 : decode cX10_alike 80 = .ok (.imul, 1) := by decide +kernel
theorem dX10_alike_81 : decode cX10_alike 81 = .ok (.iconst 2, 1) := by decide +kernel
theorem dX10_alike_82 : decode cX10_alike 82 = .ok (.idiv, 1) := by decide +kernel
theorem dX10_alike_83 : decode cX10_alike 83 = .ok (.iadd, 1) := by decide +kernel
theorem dX10_alike_84 : decode cX10_alike 84 = .ok (.istore_n 3, 1) := by decide +kernel
theorem dX10_alike_85 : decode cX10_alike 85 = .ok (.iinc 4 1, 3) := by decide +kernel
theorem dX10_alike_88 : decode cX10_alike 88 = .ok (.goto (-32), 3) := by decide +kernel
theorem dX10_alike_91 : decode cX10_alike 91 = .ok (.iload_n 3, 1) := by decide +kernel
theorem dX10_alike_92 : decode cX10_alike 92 = .ok (.ireturn, 1) := by decide +kernel
theorem dX10_openOf_0 : decode cX10_openOf 0 = .ok (.iload_n 1, 1) := by decide +kernel
theorem dX10_openOf_1 : decode cX10_openOf 1 = .ok (.aload_n 0, 1) := by decide +kernel
theorem dX10_openOf_2 : decode cX10_openOf 2 = .ok (.getfield 58, 3) := by decide +kernel
theorem dX10_openOf_5 : decode cX10_openOf 5 = .ok (.if_icmp .ne 10, 3) := by decide +kernel
theorem dX10_openOf_8 : decode cX10_openOf 8 = .ok (.aload_n 0, 1) := by decide +kernel
theorem dX10_openOf_9 : decode cX10_openOf 9 = .ok (.getfield 409, 3) := by decide +kernel
theorem dX10_openOf_12 : decode cX10_openOf 12 = .ok (.goto 9, 3) := by decide +kernel
theorem dX10_openOf_15 : decode cX10_openOf 15 = .ok (.aload_n 0, 1) := by decide +kernel
theorem dX10_openOf_16 : decode cX10_openOf 16 = .ok (.iload_n 1, 1) := by decide +kernel
theorem dX10_openOf_17 : decode cX10_openOf 17 = .ok (.iconst 2, 1) := by decide +kernel
theorem dX10_openOf_18 : decode cX10_openOf 18 = .ok (.invokevirtual 156, 3) := by decide +kernel
theorem dX10_openOf_21 : decode cX10_openOf 21 = .ok (.ireturn, 1) := by decide +kernel
theorem dX10_closeOf_0 : decode cX10_closeOf 0 = .ok (.iload_n 1, 1) := by decide +kernel
theorem dX10_closeOf_1 : decode cX10_closeOf 1 = .ok (.aload_n 0, 1) := by decide +kernel
theorem dX10_closeOf_2 : decode cX10_closeOf 2 = .ok (.getfield 58, 3) := by decide +kernel
theorem dX10_closeOf_5 : decode cX10_closeOf 5 = .ok (.if_icmp .ne 10, 3) := by decide +kernel
theorem dX10_closeOf_8 : decode cX10_closeOf 8 = .ok (.aload_n 0, 1) := by decide +kernel
theorem dX10_closeOf_9 : decode cX10_closeOf 9 = .ok (.getfield 412, 3) := by decide +kernel
theorem dX10_closeOf_12 : decode cX10_closeOf 12 = .ok (.goto 9, 3) := by decide +kernel
theorem dX10_closeOf_15 : decode cX10_closeOf 15 = .ok (.aload_n 0, 1) := by decide +kernel
theorem dX10_closeOf_16 : decode cX10_closeOf 16 = .ok (.iload_n 1, 1) := by decide +kernel
theorem dX10_closeOf_17 : decode cX10_closeOf 17 = .ok (.iconst 3, 1) := by decide +kernel
theorem dX10_closeOf_18 : decode cX10_closeOf 18 = .ok (.invokevirtual 156, 3) := by decide +kernel
theorem dX10_closeOf_21 : decode cX10_closeOf 21 = .ok (.ireturn, 1) := by decide +kernel
theorem dX10_asTold_0 : decode cX10_asTold 0 = .ok (.aload_n 0, 1) := by decide +kernel
theorem dX10_asTold_1 : decode cX10_asTold 1 = .ok (.iconst (-1), 1) := by decide +kernel
theorem dX10_asTold_2 : decode cX10_asTold 2 = .ok (.putfield 55, 3) := by decide +kernel
theorem dX10_asTold_5 : decode cX10_asTold 5 = .ok (.aload_n 0, 1) := by decide +kernel
theorem dX10_asTold_6 : decode cX10_asTold 6 = .ok (.iconst (-1), 1) := by decide +kernel
theorem dX10_asTold_7 : decode cX10_asTold 7 = .ok (.putfield 58, 3) := by decide +kernel
theorem dX10_asTold_10 : decode cX10_asTold 10 = .ok (.aload_n 0, 1) := by decide +kernel
theorem dX10_asTold_11 : decode cX10_asTold 11 = .ok (.iconst 0, 1) := by decide +kernel
theorem dX10_asTold_12 : decode cX10_asTold 12 = .ok (.putfield 415, 3) := by decide +kernel
theorem dX10_asTold_15 : decode cX10_asTold 15 = .ok (.return_, 1) := by decide +kernel
theorem dX10_beginRun_0 : decode cX10_beginRun 0 = .ok (.iconst 0, 1) := by decide +kernel
theorem dX10_beginRun_1 : decode cX10_beginRun 1 = .ok (.istore_n 1, 1) := by decide +kernel
theorem dX10_beginRun_2 : decode cX10_beginRun 2 = .ok (.iload_n 1, 1) := by decide +kernel
theorem dX10_beginRun_3 : decode cX10_beginRun 3 = .ok (.iconst 5, 1) := by decide +kernel
theorem dX10_beginRun_4 : decode cX10_beginRun 4 = .ok (.if_icmp .ge 114, 3) := by decide +kernel
theorem dX10_beginRun_7 : decode cX10_beginRun 7 = .ok (.aload_n 0, 1) := by decide +kernel
theorem dX10_beginRun_8 : decode cX10_beginRun 8 = .ok (.getfield 61, 3) := by decide +kernel
theorem dX10_beginRun_11 : decode cX10_beginRun 11 = .ok (.iload_n 1, 1) := by decide +kernel
theorem dX10_beginRun_12 : decode cX10_beginRun 12 = .ok (.iconst 0, 1) := by decide +kernel
theorem dX10_beginRun_13 : decode cX10_beginRun 13 = .ok (.iastore, 1) := by decide +kernel
theorem dX10_beginRun_14 : decode cX10_beginRun 14 = .ok (.aload_n 0, 1) := by decide +kernel
theorem dX10_beginRun_15 : decode cX10_beginRun 15 = .ok (.getfield 64, 3) := by decide +kernel
theorem dX10_beginRun_18 : decode cX10_beginRun 18 = .ok (.iload_n 1, 1) := by decide +kernel
theorem dX10_beginRun_19 : decode cX10_beginRun 19 = .ok (.iconst (-1), 1) := by decide +kernel
theorem dX10_beginRun_20 : decode cX10_beginRun 20 = .ok (.iastore, 1) := by decide +kernel
theorem dX10_beginRun_21 : decode cX10_beginRun 21 = .ok (.aload_n 0, 1) := by decide +kernel
theorem dX10_beginRun_22 : decode cX10_beginRun 22 = .ok (.getfield 67, 3) := by decide +kernel
theorem dX10_beginRun_25 : decode cX10_beginRun 25 = .ok (.iload_n 1, 1) := by decide +kernel
theorem dX10_beginRun_26 : decode cX10_beginRun 26 = .ok (.iconst 0, 1) := by decide +kernel
theorem dX10_beginRun_27 : decode cX10_beginRun 27 = .ok (.iastore, 1) := by decide +kernel
theorem dX10_beginRun_28 : decode cX10_beginRun 28 = .ok (.aload_n 0, 1) := by decide +kernel
theorem dX10_beginRun_29 : decode cX10_beginRun 29 = .ok (.getfield 76, 3) := by decide +kernel
theorem dX10_beginRun_32 : decode cX10_beginRun 32 = .ok (.iload_n 1, 1) := by decide +kernel
theorem dX10_beginRun_33 : decode cX10_beginRun 33 = .ok (.iconst 1, 1) := by decide +kernel
theorem dX10_beginRun_34 : decode cX10_beginRun 34 = .ok (.iastore, 1) := by decide +kernel
theorem dX10_beginRun_35 : decode cX10_beginRun 35 = .ok (.aload_n 0, 1) := by decide +kernel
theorem dX10_beginRun_36 : decode cX10_beginRun 36 = .ok (.getfield 79, 3) := by decide +kernel
theorem dX10_beginRun_39 : decode cX10_beginRun 39 = .ok (.iload_n 1, 1) := by decide +kernel
theorem dX10_beginRun_40 : decode cX10_beginRun 40 = .ok (.iconst (-1), 1) := by decide +kernel
theorem dX10_beginRun_41 : decode cX10_beginRun 41 = .ok (.iastore, 1) := by decide +kernel
theorem dX10_beginRun_42 : decode cX10_beginRun 42 = .ok (.aload_n 0, 1) := by decide +kernel
theorem dX10_beginRun_43 : decode cX10_beginRun 43 = .ok (.getfield 82, 3) := by decide +kernel
theorem dX10_beginRun_46 : decode cX10_beginRun 46 = .ok (.iload_n 1, 1) := by decide +kernel
theorem dX10_beginRun_47 : decode cX10_beginRun 47 = .ok (.iconst 0, 1) := by decide +kernel
theorem dX10_beginRun_48 : decode cX10_beginRun 48 = .ok (.bastore, 1) := by decide +kernel
theorem dX10_beginRun_49 : decode cX10_beginRun 49 = .ok (.aload_n 0, 1) := by decide +kernel
theorem dX10_beginRun_50 : decode cX10_beginRun 50 = .ok (.getfield 85, 3) := by decide +kernel
theorem dX10_beginRun_53 : decode cX10_beginRun 53 = .ok (.iload_n 1, 1) := by decide +kernel
theorem dX10_beginRun_54 : decode cX10_beginRun 54 = .ok (.iconst 0, 1) := by decide +kernel
theorem dX10_beginRun_55 : decode cX10_beginRun 55 = .ok (.iastore, 1) := by decide +kernel
theorem dX10_beginRun_56 : decode cX10_beginRun 56 = .ok (.aload_n 0, 1) := by decide +kernel
theorem dX10_beginRun_57 : decode cX10_beginRun 57 = .ok (.getfield 88, 3) := by decide +kernel
theorem dX10_beginRun_60 : decode cX10_beginRun 60 = .ok (.iload_n 1, 1) := by decide +kernel
theorem dX10_beginRun_61 : decode cX10_beginRun 61 = .ok (.iconst 0, 1) := by decide +kernel
theorem dX10_beginRun_62 : decode cX10_beginRun 62 = .ok (.iastore, 1) := by decide +kernel
theorem dX10_beginRun_63 : decode cX10_beginRun 63 = .ok (.aload_n 0, 1) := by decide +kernel
theorem dX10_beginRun_64 : decode cX10_beginRun 64 = .ok (.getfield 91, 3) := by decide +kernel
theorem dX10_beginRun_67 : decode cX10_beginRun 67 = .ok (.iload_n 1, 1) := by decide +kernel
theorem dX10_beginRun_68 : decode cX10_beginRun 68 = .ok (.fconst 1, 1) := by decide +kernel
theorem dX10_beginRun_69 : decode cX10_beginRun 69 = .ok (.fastore, 1) := by decide +kernel
theorem dX10_beginRun_70 : decode cX10_beginRun 70 = .ok (.aload_n 0, 1) := by decide +kernel
theorem dX10_beginRun_71 : decode cX10_beginRun 71 = .ok (.getfield 95, 3) := by decide +kernel
theorem dX10_beginRun_74 : decode cX10_beginRun 74 = .ok (.iload_n 1, 1) := by decide +kernel
theorem dX10_beginRun_75 : decode cX10_beginRun 75 = .ok (.iconst 0, 1) := by decide +kernel
theorem dX10_beginRun_76 : decode cX10_beginRun 76 = .ok (.iastore, 1) := by decide +kernel
theorem dX10_beginRun_77 : decode cX10_beginRun 77 = .ok (.aload_n 0, 1) := by decide +kernel
theorem dX10_beginRun_78 : decode cX10_beginRun 78 = .ok (.getfield 98, 3) := by decide +kernel
theorem dX10_beginRun_81 : decode cX10_beginRun 81 = .ok (.iload_n 1, 1) := by decide +kernel
theorem dX10_beginRun_82 : decode cX10_beginRun 82 = .ok (.iconst 0, 1) := by decide +kernel
theorem dX10_beginRun_83 : decode cX10_beginRun 83 = .ok (.bastore, 1) := by decide +kernel
theorem dX10_beginRun_84 : decode cX10_beginRun 84 = .ok (.aload_n 0, 1) := by decide +kernel
theorem dX10_beginRun_85 : decode cX10_beginRun 85 = .ok (.getfield 101, 3) := by decide +kernel
theorem dX10_beginRun_88 : decode cX10_beginRun 88 = .ok (.iload_n 1, 1) := by decide +kernel
theorem dX10_beginRun_89 : decode cX10_beginRun 89 = .ok (.iconst 0, 1) := by decide +kernel
theorem dX10_beginRun_90 : decode cX10_beginRun 90 = .ok (.iastore, 1) := by decide +kernel
theorem dX10_beginRun_91 : decode cX10_beginRun 91 = .ok (.aload_n 0, 1) := by decide +kernel
theorem dX10_beginRun_92 : decode cX10_beginRun 92 = .ok (.getfield 104, 3) := by decide +kernel
theorem dX10_beginRun_95 : decode cX10_beginRun 95 = .ok (.iload_n 1, 1) := by decide +kernel
theorem dX10_beginRun_96 : decode cX10_beginRun 96 = .ok (.iconst (-1), 1) := by decide +kernel
theorem dX10_beginRun_97 : decode cX10_beginRun 97 = .ok (.iastore, 1) := by decide +kernel
theorem dX10_beginRun_98 : decode cX10_beginRun 98 = .ok (.aload_n 0, 1) := by decide +kernel
theorem dX10_beginRun_99 : decode cX10_beginRun 99 = .ok (.getfield 110, 3) := by decide +kernel
theorem dX10_beginRun_102 : decode cX10_beginRun 102 = .ok (.iload_n 1, 1) := by decide +kernel
theorem dX10_beginRun_103 : decode cX10_beginRun 103 = .ok (.dconst 0, 1) := by decide +kernel
theorem dX10_beginRun_104 : decode cX10_beginRun 104 = .ok (.dastore, 1) := by decide +kernel
theorem dX10_beginRun_105 : decode cX10_beginRun 105 = .ok (.aload_n 0, 1) := by decide +kernel
theorem dX10_beginRun_106 : decode cX10_beginRun 106 = .ok (.getfield 114, 3) := by decide +kernel
theorem dX10_beginRun_109 : decode cX10_beginRun 109 = .ok (.iload_n 1, 1) := by decide +kernel
theorem dX10_beginRun_110 : decode cX10_beginRun 110 = .ok (.iconst 0, 1) := by decide +kernel
theorem dX10_beginRun_111 : decode cX10_beginRun 111 = .ok (.iastore, 1) := by decide +kernel
theorem dX10_beginRun_112 : decode cX10_beginRun 112 = .ok (.iinc 1 1, 3) := by decide +kernel
theorem dX10_beginRun_115 : decode cX10_beginRun 115 = .ok (.goto (-113), 3) := by decide +kernel
theorem dX10_beginRun_118 : decode cX10_beginRun 118 = .ok (.iconst 0, 1) := by decide +kernel
theorem dX10_beginRun_119 : decode cX10_beginRun 119 = .ok (.istore_n 1, 1) := by decide +kernel
theorem dX10_beginRun_120 : decode cX10_beginRun 120 = .ok (.iload_n 1, 1) := by decide +kernel
theorem dX10_beginRun_121 : decode cX10_beginRun 121 = .ok (.sipush 255, 3) := by decide +kernel
theorem dX10_beginRun_124 : decode cX10_beginRun 124 = .ok (.if_icmp .ge 16, 3) := by decide +kernel
theorem dX10_beginRun_127 : decode cX10_beginRun 127 = .ok (.aload_n 0, 1) := by decide +kernel
theorem dX10_beginRun_128 : decode cX10_beginRun 128 = .ok (.getfield 120, 3) := by decide +kernel
theorem dX10_beginRun_131 : decode cX10_beginRun 131 = .ok (.iload_n 1, 1) := by decide +kernel
theorem dX10_beginRun_132 : decode cX10_beginRun 132 = .ok (.iconst (-1), 1) := by decide +kernel
theorem dX10_beginRun_133 : decode cX10_beginRun 133 = .ok (.iastore, 1) := by decide +kernel
theorem dX10_beginRun_134 : decode cX10_beginRun 134 = .ok (.iinc 1 1, 3) := by decide +kernel
theorem dX10_beginRun_137 : decode cX10_beginRun 137 = .ok (.goto (-17), 3) := by decide +kernel
theorem dX10_beginRun_140 : decode cX10_beginRun 140 = .ok (.iconst 0, 1) := by decide +kernel
theorem dX10_beginRun_141 : decode cX10_beginRun 141 = .ok (.istore_n 1, 1) := by decide +kernel
theorem dX10_beginRun_142 : decode cX10_beginRun 142 = .ok (.iload_n 1, 1) := by decide +kernel
theorem dX10_beginRun_143 : decode cX10_beginRun 143 = .ok (.bipush 18, 2) := by decide +kernel
theorem dX10_beginRun_145 : decode cX10_beginRun 145 = .ok (.if_icmp .gt 16, 3) := by decide +kernel
theorem dX10_beginRun_148 : decode cX10_beginRun 148 = .ok (.aload_n 0, 1) := by decide +kernel
theorem dX10_beginRun_149 : decode cX10_beginRun 149 = .ok (.getfield 123, 3) := by decide +kernel
theorem dX10_beginRun_152 : decode cX10_beginRun 152 = .ok (.iload_n 1, 1) := by decide +kernel
theorem dX10_beginRun_153 : decode cX10_beginRun 153 = .ok (.iconst 0, 1) := by decide +kernel
theorem dX10_beginRun_154 : decode cX10_beginRun 154 = .ok (.bastore, 1) := by decide +kernel
theorem dX10_beginRun_155 : decode cX10_beginRun 155 = .ok (.iinc 1 1, 3) := by decide +kernel
theorem dX10_beginRun_158 : decode cX10_beginRun 158 = .ok (.goto (-16), 3) := by decide +kernel
theorem dX10_beginRun_161 : decode cX10_beginRun 161 = .ok (.iconst 0, 1) := by decide +kernel
theorem dX10_beginRun_162 : decode cX10_beginRun 162 = .ok (.istore_n 1, 1) := by decide +kernel
theorem dX10_beginRun_163 : decode cX10_beginRun 163 = .ok (.iload_n 1, 1) := by decide +kernel
theorem dX10_beginRun_164 : decode cX10_beginRun 164 = .ok (.iconst 3, 1) := by decide +kernel
theorem dX10_beginRun_165 : decode cX10_beginRun 165 = .ok (.if_icmp .ge 23, 3) := by decide +kernel
theorem dX10_beginRun_168 : decode cX10_beginRun 168 = .ok (.aload_n 0, 1) := by decide +kernel
theorem dX10_beginRun_169 : decode cX10_beginRun 169 = .ok (.getfield 126, 3) := by decide +kernel
theorem dX10_beginRun_172 : decode cX10_beginRun 172 = .ok (.iload_n 1, 1) := by decide +kernel
theorem dX10_beginRun_173 : decode cX10_beginRun 173 = .ok (.iconst 0, 1) := by decide +kernel
theorem dX10_beginRun_174 : decode cX10_beginRun 174 = .ok (.bastore, 1) := by decide +kernel
theorem dX10_beginRun_175 : decode cX10_beginRun 175 = .ok (.aload_n 0, 1) := by decide +kernel
theorem dX10_beginRun_176 : decode cX10_beginRun 176 = .ok (.getfield 129, 3) := by decide +kernel
theorem dX10_beginRun_179 : decode cX10_beginRun 179 = .ok (.iload_n 1, 1) := by decide +kernel
theorem dX10_beginRun_180 : decode cX10_beginRun 180 = .ok (.iconst 0, 1) := by decide +kernel
theorem dX10_beginRun_181 : decode cX10_beginRun 181 = .ok (.bastore, 1) := by decide +kernel
theorem dX10_beginRun_182 : decode cX10_beginRun 182 = .ok (.iinc 1 1, 3) := by decide +kernel
theorem dX10_beginRun_185 : decode cX10_beginRun 185 = .ok (.goto (-22), 3) := by decide +kernel
theorem dX10_beginRun_188 : decode cX10_beginRun 188 = .ok (.iconst 0, 1) := by decide +kernel
theorem dX10_beginRun_189 : decode cX10_beginRun 189 = .ok (.istore_n 1, 1) := by decide +kernel
theorem dX10_beginRun_190 : decode cX10_beginRun 190 = .ok (.iload_n 1, 1) := by decide +kernel
theorem dX10_beginRun_191 : decode cX10_beginRun 191 = .ok (.sipush 200, 3) := by decide +kernel
theorem dX10_beginRun_194 : decode cX10_beginRun 194 = .ok (.if_icmp .ge 16, 3) := by decide +kernel
theorem dX10_beginRun_197 : decode cX10_beginRun 197 = .ok (.aload_n 0, 1) := by decide +kernel
theorem dX10_beginRun_198 : decode cX10_beginRun 198 = .ok (.getfield 132, 3) := by decide +kernel
theorem dX10_beginRun_201 : decode cX10_beginRun 201 = .ok (.iload_n 1, 1) := by decide +kernel
theorem dX10_beginRun_202 : decode cX10_beginRun 202 = .ok (.iconst (-1), 1) := by decide +kernel
theorem dX10_beginRun_203 : decode cX10_beginRun 203 = .ok (.iastore, 1) := by decide +kernel
theorem dX10_beginRun_204 : decode cX10_beginRun 204 = .ok (.iinc 1 1, 3) := by decide +kernel
theorem dX10_beginRun_207 : decode cX10_beginRun 207 = .ok (.goto (-17), 3) := by decide +kernel
theorem dX10_beginRun_210 : decode cX10_beginRun 210 = .ok (.aload_n 0, 1) := by decide +kernel
theorem dX10_beginRun_211 : decode cX10_beginRun 211 = .ok (.iconst 0, 1) := by decide +kernel
theorem dX10_beginRun_212 : decode cX10_beginRun 212 = .ok (.putfield 418, 3) := by decide +kernel
theorem dX10_beginRun_215 : decode cX10_beginRun 215 = .ok (.aload_n 0, 1) := by decide +kernel
theorem dX10_beginRun_216 : decode cX10_beginRun 216 = .ok (.iconst 0, 1) := by decide +kernel
theorem dX10_beginRun_217 : decode cX10_beginRun 217 = .ok (.putfield 421, 3) := by decide +kernel
theorem dX10_beginRun_220 : decode cX10_beginRun 220 = .ok (.aload_n 0, 1) := by decide +kernel
theorem dX10_beginRun_221 : decode cX10_beginRun 221 = .ok (.iconst (-1), 1) := by decide +kernel
theorem dX10_beginRun_222 : decode cX10_beginRun 222 = .ok (.putfield 424, 3) := by decide +kernel
theorem dX10_beginRun_225 : decode cX10_beginRun 225 = .ok (.return_, 1) := by decide +kernel
theorem dX10_injections_0 : decode cX10_injections 0 = .ok (.aload_n 0, 1) := by decide +kernel
theorem dX10_injections_1 : decode cX10_injections 1 = .ok (.invokevirtual 345, 3) := by decide +kernel
theorem dX10_injections_4 : decode cX10_injections 4 = .ok (.aload_n 0, 1) := by decide +kernel
theorem dX10_injections_5 : decode cX10_injections 5 = .ok (.getfield 415, 3) := by decide +kernel
theorem dX10_injections_8 : decode cX10_injections 8 = .ok (.iadd, 1) := by decide +kernel
theorem dX10_injections_9 : decode cX10_injections 9 = .ok (.ireturn, 1) := by decide +kernel
theorem dX10_changeAt_0 : decode cX10_changeAt 0 = .ok (.iconst 0, 1) := by decide +kernel
theorem dX10_changeAt_1 : decode cX10_changeAt 1 = .ok (.istore_n 3, 1) := by decide +kernel
theorem dX10_changeAt_2 : decode cX10_changeAt 2 = .ok (.iload_n 3, 1) := by decide +kernel
theorem dX10_changeAt_3 : decode cX10_changeAt 3 = .ok (.aload_n 0, 1) := by decide +kernel
theorem dX10_changeAt_4 : decode cX10_changeAt 4 = .ok (.invokevirtual 427, 3) := by decide +kernel
theorem dX10_changeAt_7 : decode cX10_changeAt 7 = .ok (.if_icmp .ge 93, 3) := by decide +kernel
theorem dX10_changeAt_10 : decode cX10_changeAt 10 = .ok (.iload_n 3, 1) := by decide +kernel
theorem dX10_changeAt_11 : decode cX10_changeAt 11 = .ok (.aload_n 0, 1) := by decide +kernel
theorem dX10_changeAt_12 : decode cX10_changeAt 12 = .ok (.getfield 55, 3) := by decide +kernel
theorem dX10_changeAt_15 : decode cX10_changeAt 15 = .ok (.if_icmp .eq 79, 3) := by decide +kernel
theorem dX10_changeAt_18 : decode cX10_changeAt 18 = .ok (.aload_n 0, 1) := by decide +kernel
theorem dX10_changeAt_19 : decode cX10_changeAt 19 = .ok (.iload_n 3, 1) := by decide +kernel
theorem dX10_changeAt_20 : decode cX10_changeAt 20 = .ok (.iconst 0, 1) := by decide +kernel
theorem dX10_changeAt_21 : decode cX10_changeAt 21 = .ok (.invokevirtual 350, 3) := by decide +kernel
theorem dX10_changeAt_24 : decode cX10_changeAt 24 = .ok (.iconst 3, 1) := by decide +kernel
theorem dX10_changeAt_25 : decode cX10_changeAt 25 = .ok (.if_icmp .gt 69, 3) := by decide +kernel
theorem dX10_changeAt_28 : decode cX10_changeAt 28 = .ok (.aload_n 0, 1) := by decide +kernel
theorem dX10_changeAt_29 : decode cX10_changeAt 29 = .ok (.iload_n 3, 1) := by decide +kernel
theorem dX10_changeAt_30 : decode cX10_changeAt 30 = .ok (.iconst 1, 1) := by decide +kernel
theorem dX10_changeAt_31 : decode cX10_changeAt 31 = .ok (.invokevirtual 350, 3) := by decide +kernel
theorem dX10_changeAt_34 : decode cX10_changeAt 34 = .ok (.iload_n 1, 1) := by decide +kernel
theorem dX10_changeAt_35 : decode cX10_changeAt 35 = .ok (.if_icmp .ne 59, 3) := by decide +kernel
theorem dX10_changeAt_38 : decode cX10_changeAt 38 = .ok (.aload_n 0, 1) := by decide +kernel
theorem dX10_changeAt_39 : decode cX10_changeAt 39 = .ok (.iload_n 3, 1) := by decide +kernel
theorem dX10_changeAt_40 : decode cX10_changeAt 40 = .ok (.iconst 3, 1) := by decide +kernel
theorem dX10_changeAt_41 : decode cX10_changeAt 41 = .ok (.invokevirtual 350, 3) := by decide +kernel
theorem dX10_changeAt_44 : decode cX10_changeAt 44 = .ok (.iload_n 2, 1) := by decide +kernel
theorem dX10_changeAt_45 : decode cX10_changeAt 45 = .ok (.if_icmp .eq 6, 3) := by decide +kernel
theorem dX10_changeAt_48 : decode cX10_changeAt 48 = .ok (.goto 46, 3) := by decide +kernel
theorem dX10_changeAt_51 : decode cX10_changeAt 51 = .ok (.aload_n 0, 1) := by decide +kernel
theorem dX10_changeAt_52 : decode cX10_changeAt 52 = .ok (.getfield 64, 3) := by decide +kernel
theorem dX10_changeAt_55 : decode cX10_changeAt 55 = .ok (.iload_n 1, 1) := by decide +kernel
theorem dX10_changeAt_56 : decode cX10_changeAt 56 = .ok (.iaload, 1) := by decide +kernel
theorem dX10_changeAt_57 : decode cX10_changeAt 57 = .ok (.i2l, 1) := by decide +kernel
theorem dX10_changeAt_58 : decode cX10_changeAt 58 = .ok (.aload_n 0, 1) := by decide +kernel
theorem dX10_changeAt_59 : decode cX10_changeAt 59 = .ok (.iload_n 3, 1) := by decide +kernel
theorem dX10_changeAt_60 : decode cX10_changeAt 60 = .ok (.iconst 2, 1) := by decide +kernel
theorem dX10_changeAt_61 : decode cX10_changeAt 61 = .ok (.invokevirtual 350, 3) := by decide +kernel
theorem dX10_changeAt_64 : decode cX10_changeAt 64 = .ok (.i2l, 1) := by decide +kernel
theorem dX10_changeAt_65 : decode cX10_changeAt 65 = .ok (.aload_n 0, 1) := by decide +kernel
theorem dX10_changeAt_66 : decode cX10_changeAt 66 = .ok (.iload_n 3, 1) := by decide +kernel
theorem dX10_changeAt_67 : decode cX10_changeAt 67 = .ok (.iconst 2, 1) := by decide +kernel
theorem dX10_changeAt_68 : decode cX10_changeAt 68 = .ok (.invokevirtual 350, 3) := by decide +kernel
theorem dX10_changeAt_71 : decode cX10_changeAt 71 = .ok (.aload_n 0, 1) := by decide +kernel
theorem dX10_changeAt_72 : decode cX10_changeAt 72 = .ok (.iload_n 3, 1) := by decide +kernel
theorem dX10_changeAt_73 : decode cX10_changeAt 73 = .ok (.iconst 4, 1) := by decide +kernel
theorem dX10_changeAt_74 : decode cX10_changeAt 74 = .ok (.invokevirtual 350, 3) := by decide +kernel
theorem dX10_changeAt_77 : decode cX10_changeAt 77 = .ok (.iadd, 1) := by decide +kernel
theorem dX10_changeAt_78 : decode cX10_changeAt 78 = .ok (.iconst 1, 1) := by decide +kernel
theorem dX10_changeAt_79 : decode cX10_changeAt 79 = .ok (.isub, 1) := by decide +kernel
theorem dX10_changeAt_80 : decode cX10_changeAt 80 = .ok (.i2l, 1) := by decide +kernel
theorem dX10_changeAt_81 : decode cX10_changeAt 81 = .ok (.invokestatic 152, 3) := by decide +kernel
theorem dX10_changeAt_84 : decode cX10_changeAt 84 = .ok (.ifCond .eq 10, 3) := by decide +kernel
theorem dX10_changeAt_87 : decode cX10_changeAt 87 = .ok (.aload_n 0, 1) := by decide +kernel
theorem dX10_changeAt_88 : decode cX10_changeAt 88 = .ok (.iload_n 3, 1) := by decide +kernel
theorem dX10_changeAt_89 : decode cX10_changeAt 89 = .ok (.iconst 0, 1) := by decide +kernel
theorem dX10_changeAt_90 : decode cX10_changeAt 90 = .ok (.invokevirtual 350, 3) := by decide +kernel
theorem dX10_changeAt_93 : decode cX10_changeAt 93 = .ok (.ireturn, 1) := by decide +kernel
theorem dX10_changeAt_94 : decode cX10_changeAt 94 = .ok (.iinc 3 1, 3) := by decide +kernel
theorem dX10_changeAt_97 : decode cX10_changeAt 97 = .ok (.goto (-95), 3) := by decide +kernel
theorem dX10_changeAt_100 : decode cX10_changeAt 100 = .ok (.iconst (-1), 1) := by decide +kernel
theorem dX10_changeAt_101 : decode cX10_changeAt 101 = .ok (.ireturn, 1) := by decide +kernel
theorem dX10_isWrong_0 : decode cX10_isWrong 0 = .ok (.iconst 0, 1) := by decide +kernel
theorem dX10_isWrong_1 : decode cX10_isWrong 1 = .ok (.istore_n 2, 1) := by decide +kernel
theorem dX10_isWrong_2 : decode cX10_isWrong 2 = .ok (.iload_n 2, 1) := by decide +kernel
theorem dX10_isWrong_3 : decode cX10_isWrong 3 = .ok (.aload_n 0, 1) := by decide +kernel
theorem dX10_isWrong_4 : decode cX10_isWrong 4 = .ok (.invokevirtual 427, 3) := by decide +kernel
theorem dX10_isWrong_7 : decode cX10_isWrong 7 = .ok (.if_icmp .ge 75, 3) := by decide +kernel
theorem dX10_isWrong_10 : decode cX10_isWrong 10 = .ok (.iload_n 2, 1) := by decide +kernel
theorem dX10_isWrong_11 : decode cX10_isWrong 11 = .ok (.aload_n 0, 1) := by decide +kernel
theorem dX10_isWrong_12 : decode cX10_isWrong 12 = .ok (.getfield 55, 3) := by decide +kernel
theorem dX10_isWrong_15 : decode cX10_isWrong 15 = .ok (.if_icmp .eq 61, 3) := by decide +kernel
theorem dX10_isWrong_18 : decode cX10_isWrong 18 = .ok (.aload_n 0, 1) := by decide +kernel
theorem dX10_isWrong_19 : decode cX10_isWrong 19 = .ok (.iload_n 2, 1) := by decide +kernel
theorem dX10_isWrong_20 : decode cX10_isWrong 20 = .ok (.iconst 0, 1) := by decide +kernel
theorem dX10_isWrong_21 : decode cX10_isWrong 21 = .ok (.invokevirtual 350, 3) := by decide +kernel
theorem dX10_isWrong_24 : decode cX10_isWrong 24 = .ok (.iconst 4, 1) := by decide +kernel
theorem dX10_isWrong_25 : decode cX10_isWrong 25 = .ok (.if_icmp .ne 51, 3) := by decide +kernel
theorem dX10_isWrong_28 : decode cX10_isWrong 28 = .ok (.aload_n 0, 1) := by decide +kernel
theorem dX10_isWrong_29 : decode cX10_isWrong 29 = .ok (.iload_n 2, 1) := by decide +kernel
theorem dX10_isWrong_30 : decode cX10_isWrong 30 = .ok (.iconst 1, 1) := by decide +kernel
theorem dX10_isWrong_31 : decode cX10_isWrong 31 = .ok (.invokevirtual 350, 3) := by decide +kernel
theorem dX10_isWrong_34 : decode cX10_isWrong 34 = .ok (.iload_n 1, 1) := by decide +kernel
theorem dX10_isWrong_35 : decode cX10_isWrong 35 = .ok (.if_icmp .ne 41, 3) := by decide +kernel
theorem dX10_isWrong_38 : decode cX10_isWrong 38 = .ok (.aload_n 0, 1) := by decide +kernel
theorem dX10_isWrong_39 : decode cX10_isWrong 39 = .ok (.getfield 64, 3) := by decide +kernel
theorem dX10_isWrong_42 : decode cX10_isWrong 42 = .ok (.iload_n 1, 1) := by decide +kernel
theorem dX10_isWrong_43 : decode cX10_isWrong 43 = .ok (.iaload, 1) := by decide +kernel
theorem dX10_isWrong_44 : decode cX10_isWrong 44 = .ok (.i2l, 1) := by decide +kernel
theorem dX10_isWrong_45 : decode cX10_isWrong 45 = .ok (.aload_n 0, 1) := by decide +kernel
theorem dX10_isWrong_46 : decode cX10_isWrong 46 = .ok (.iload_n 2, 1) := by decide +kernel
theorem dX10_isWrong_47 : decode cX10_isWrong 47 = .ok (.iconst 2, 1) := by decide +kernel
theorem dX10_isWrong_48 : decode cX10_isWrong 48 = .ok (.invokevirtual 350, 3) := by decide +kernel
theorem dX10_isWrong_51 : decode cX10_isWrong 51 = .ok (.i2l, 1) := by decide +kernel
theorem dX10_isWrong_52 : decode cX10_isWrong 52 = .ok (.aload_n 0, 1) := by decide +kernel
theorem dX10_isWrong_53 : decode cX10_isWrong 53 = .ok (.iload_n 2, 1) := by decide +kernel
theorem dX10_isWrong_54 : decode cX10_isWrong 54 = .ok (.iconst 2, 1) := by decide +kernel
theorem dX10_isWrong_55 : decode cX10_isWrong 55 = .ok (.invokevirtual 350, 3) := by decide +kernel
theorem dX10_isWrong_58 : decode cX10_isWrong 58 = .ok (.aload_n 0, 1) := by decide +kernel
theorem dX10_isWrong_59 : decode cX10_isWrong 59 = .ok (.iload_n 2, 1) := by decide +kernel
theorem dX10_isWrong_60 : decode cX10_isWrong 60 = .ok (.iconst 4, 1) := by decide +kernel
theorem dX10_isWrong_61 : decode cX10_isWrong 61 = .ok (.invokevirtual 350, 3) := by decide +kernel
theorem dX10_isWrong_64 : decode cX10_isWrong 64 = .ok (.iadd, 1) := by decide +kernel
theorem dX10_isWrong_65 : decode cX10_isWrong 65 = .ok (.iconst 1, 1) := by decide +kernel
theorem dX10_isWrong_66 : decode cX10_isWrong 66 = .ok (.isub, 1) := by decide +kernel
theorem dX10_isWrong_67 : decode cX10_isWrong 67 = .ok (.i2l, 1) := by decide +kernel
theorem dX10_isWrong_68 : decode cX10_isWrong 68 = .ok (.invokestatic 152, 3) := by decide +kernel
theorem dX10_isWrong_71 : decode cX10_isWrong 71 = .ok (.ifCond .eq 5, 3) := by decide +kernel
theorem dX10_isWrong_74 : decode cX10_isWrong 74 = .ok (.iconst 1, 1) := by decide +kernel
theorem dX10_isWrong_75 : decode cX10_isWrong 75 = .ok (.ireturn, 1) := by decide +kernel
theorem dX10_isWrong_76 : decode cX10_isWrong 76 = .ok (.iinc 2 1, 3) := by decide +kernel
theorem dX10_isWrong_79 : decode cX10_isWrong 79 = .ok (.goto (-77), 3) := by decide +kernel
theorem dX10_isWrong_82 : decode cX10_isWrong 82 = .ok (.iconst 0, 1) := by decide +kernel
theorem dX10_isWrong_83 : decode cX10_isWrong 83 = .ok (.ireturn, 1) := by decide +kernel
theorem dX10_isAsleep_0 : decode cX10_isAsleep 0 = .ok (.iconst 0, 1) := by decide +kernel
theorem dX10_isAsleep_1 : decode cX10_isAsleep 1 = .ok (.istore_n 3, 1) := by decide +kernel
theorem dX10_isAsleep_2 : decode cX10_isAsleep 2 = .ok (.iload_n 3, 1) := by decide +kernel
theorem dX10_isAsleep_3 : decode cX10_isAsleep 3 = .ok (.aload_n 0, 1) := by decide +kernel
theorem dX10_isAsleep_4 : decode cX10_isAsleep 4 = .ok (.invokevirtual 427, 3) := by decide +kernel
theorem dX10_isAsleep_7 : decode cX10_isAsleep 7 = .ok (.if_icmp .ge 58, 3) := by decide +kernel
theorem dX10_isAsleep_10 : decode cX10_isAsleep 10 = .ok (.iload_n 3, 1) := by decide +kernel
theorem dX10_isAsleep_11 : decode cX10_isAsleep 11 = .ok (.aload_n 0, 1) := by decide +kernel
theorem dX10_isAsleep_12 : decode cX10_isAsleep 12 = .ok (.getfield 55, 3) := by decide +kernel
theorem dX10_isAsleep_15 : decode cX10_isAsleep 15 = .ok (.if_icmp .eq 44, 3) := by decide +kernel
theorem dX10_isAsleep_18 : decode cX10_isAsleep 18 = .ok (.aload_n 0, 1) := by decide +kernel
theorem dX10_isAsleep_19 : decode cX10_isAsleep 19 = .ok (.iload_n 3, 1) := by decide +kernel
theorem dX10_isAsleep_20 : decode cX10_isAsleep 20 = .ok (.iconst 0, 1) := by decide +kernel
theorem dX10_isAsleep_21 : decode cX10_isAsleep 21 = .ok (.invokevirtual 350, 3) := by decide +kernel
theorem dX10_isAsleep_24 : decode cX10_isAsleep 24 = .ok (.iconst 5, 1) := by decide +kernel
theorem dX10_isAsleep_25 : decode cX10_isAsleep 25 = .ok (.if_icmp .ne 34, 3) := by decide +kernel
theorem dX10_isAsleep_28 : decode cX10_isAsleep 28 = .ok (.aload_n 0, 1) := by decide +kernel
theorem dX10_isAsleep_29 : decode cX10_isAsleep 29 = .ok (.iload_n 3, 1) := by decide +kernel
theorem dX10_isAsleep_30 : decode cX10_isAsleep 30 = .ok (.iconst 1, 1) := by decide +kernel
theorem dX10_isAsleep_31 : decode cX10_isAsleep 31 = .ok (.invokevirtual 350, 3) := by decide +kernel
theorem dX10_isAsleep_34 : decode cX10_isAsleep 34 = .ok (.iload_n 1, 1) := by decide +kernel
theorem dX10_isAsleep_35 : decode cX10_isAsleep 35 = .ok (.if_icmp .ne 24, 3) := by decide +kernel
theorem dX10_isAsleep_38 : decode cX10_isAsleep 38 = .ok (.aload_n 0, 1) := by decide +kernel
theorem dX10_isAsleep_39 : decode cX10_isAsleep 39 = .ok (.iload_n 3, 1) := by decide +kernel
theorem dX10_isAsleep_40 : decode cX10_isAsleep 40 = .ok (.iconst 2, 1) := by decide +kernel
theorem dX10_isAsleep_41 : decode cX10_isAsleep 41 = .ok (.invokevirtual 350, 3) := by decide +kernel
theorem dX10_isAsleep_44 : decode cX10_isAsleep 44 = .ok (.iload_n 2, 1) := by decide +kernel
theorem dX10_isAsleep_45 : decode cX10_isAsleep 45 = .ok (.if_icmp .gt 14, 3) := by decide +kernel
theorem dX10_isAsleep_48 : decode cX10_isAsleep 48 = .ok (.aload_n 0, 1) := by decide +kernel
theorem dX10_isAsleep_49 : decode cX10_isAsleep 49 = .ok (.getfield 123, 3) := by decide +kernel
theorem dX10_isAsleep_52 : decode cX10_isAsleep 52 = .ok (.iload_n 3, 1) := by decide +kernel
theorem dX10_isAsleep_53 : decode cX10_isAsleep 53 = .ok (.baload, 1) := by decide +kernel
theorem dX10_isAsleep_54 : decode cX10_isAsleep 54 = .ok (.ifCond .ne 5, 3) := by decide +kernel
theorem dX10_isAsleep_57 : decode cX10_isAsleep 57 = .ok (.iconst 1, 1) := by decide +kernel
theorem dX10_isAsleep_58 : decode cX10_isAsleep 58 = .ok (.ireturn, 1) := by decide +kernel
theorem dX10_isAsleep_59 : decode cX10_isAsleep 59 = .ok (.iinc 3 1, 3) := by decide +kernel
theorem dX10_isAsleep_62 : decode cX10_isAsleep 62 = .ok (.goto (-60), 3) := by decide +kernel
theorem dX10_isAsleep_65 : decode cX10_isAsleep 65 = .ok (.iconst 0, 1) := by decide +kernel
theorem dX10_isAsleep_66 : decode cX10_isAsleep 66 = .ok (.ireturn, 1) := by decide +kernel
theorem dX10_wakes_0 : decode cX10_wakes 0 = .ok (.iconst 0, 1) := by decide +kernel
theorem dX10_wakes_1 : decode cX10_wakes 1 = .ok (.istore_n 3, 1) := by decide +kernel
theorem dX10_wakes_2 : decode cX10_wakes 2 = .ok (.iload_n 3, 1) := by decide +kernel
theorem dX10_wakes_3 : decode cX10_wakes 3 = .ok (.aload_n 0, 1) := by decide +kernel
theorem dX10_wakes_4 : decode cX10_wakes 4 = .ok (.invokevirtual 427, 3) := by decide +kernel
theorem dX10_wakes_7 : decode cX10_wakes 7 = .ok (.if_icmp .ge 46, 3) := by decide +kernel
theorem dX10_wakes_10 : decode cX10_wakes 10 = .ok (.aload_n 0, 1) := by decide +kernel
theorem dX10_wakes_11 : decode cX10_wakes 11 = .ok (.iload_n 3, 1) := by decide +kernel
theorem dX10_wakes_12 : decode cX10_wakes 12 = .ok (.iconst 0, 1) := by decide +kernel
theorem dX10_wakes_13 : decode cX10_wakes 13 = .ok (.invokevirtual 350, 3) := by decide +kernel
theorem dX10_wakes_16 : decode cX10_wakes 16 = .ok (.iconst 5, 1) := by decide +kernel
theorem dX10_wakes_17 : decode cX10_wakes 17 = .ok (.if_icmp .ne 30, 3) := by decide +kernel
theorem dX10_wakes_20 : decode cX10_wakes 20 = .ok (.aload_n 0, 1) := by decide +kernel
theorem dX10_wakes_21 : decode cX10_wakes 21 = .ok (.iload_n 3, 1) := by decide +kernel
theorem dX10_wakes_22 : decode cX10_wakes 22 = .ok (.iconst 1, 1) := by decide +kernel
theorem dX10_wakes_23 : decode cX10_wakes 23 = .ok (.invokevirtual 350, 3) := by decide +kernel
theorem dX10_wakes_26 : decode cX10_wakes 26 = .ok (.iload_n 1, 1) := by decide +kernel
theorem dX10_wakes_27 : decode cX10_wakes 27 = .ok (.if_icmp .ne 20, 3) := by decide +kernel
theorem dX10_wakes_30 : decode cX10_wakes 30 = .ok (.aload_n 0, 1) := by decide +kernel
theorem dX10_wakes_31 : decode cX10_wakes 31 = .ok (.iload_n 3, 1) := by decide +kernel
theorem dX10_wakes_32 : decode cX10_wakes 32 = .ok (.iconst 2, 1) := by decide +kernel
theorem dX10_wakes_33 : decode cX10_wakes 33 = .ok (.invokevirtual 350, 3) := by decide +kernel
theorem dX10_wakes_36 : decode cX10_wakes 36 = .ok (.iload_n 2, 1) := by decide +kernel
theorem dX10_wakes_37 : decode cX10_wakes 37 = .ok (.if_icmp .gt 10, 3) := by decide +kernel
theorem dX10_wakes_40 : decode cX10_wakes 40 = .ok (.aload_n 0, 1) := by decide +kernel
theorem dX10_wakes_41 : decode cX10_wakes 41 = .ok (.getfield 123, 3) := by decide +kernel
theorem dX10_wakes_44 : decode cX10_wakes 44 = .ok (.iload_n 3, 1) := by decide +kernel
theorem dX10_wakes_45 : decode cX10_wakes 45 = .ok (.iconst 1, 1) := by decide +kernel
theorem dX10_wakes_46 : decode cX10_wakes 46 = .ok (.bastore, 1) := by decide +kernel
theorem dX10_wakes_47 : decode cX10_wakes 47 = .ok (.iinc 3 1, 3) := by decide +kernel
theorem dX10_wakes_50 : decode cX10_wakes 50 = .ok (.goto (-48), 3) := by decide +kernel
theorem dX10_wakes_53 : decode cX10_wakes 53 = .ok (.return_, 1) := by decide +kernel
theorem dX10_restarts_0 : decode cX10_restarts 0 = .ok (.aload_n 0, 1) := by decide +kernel
theorem dX10_restarts_1 : decode cX10_restarts 1 = .ok (.getfield 64, 3) := by decide +kernel
theorem dX10_restarts_4 : decode cX10_restarts 4 = .ok (.iload_n 1, 1) := by decide +kernel
theorem dX10_restarts_5 : decode cX10_restarts 5 = .ok (.iconst (-1), 1) := by decide +kernel
theorem dX10_restarts_6 : decode cX10_restarts 6 = .ok (.iastore, 1) := by decide +kernel
theorem dX10_restarts_7 : decode cX10_restarts 7 = .ok (.aload_n 0, 1) := by decide +kernel
theorem dX10_restarts_8 : decode cX10_restarts 8 = .ok (.getfield 61, 3) := by decide +kernel
theorem dX10_restarts_11 : decode cX10_restarts 11 = .ok (.iload_n 1, 1) := by decide +kernel
theorem dX10_restarts_12 : decode cX10_restarts 12 = .ok (.iload_n 2, 1) := by decide +kernel
theorem dX10_restarts_13 : decode cX10_restarts 13 = .ok (.aload_n 0, 1) := by decide +kernel
theorem dX10_restarts_14 : decode cX10_restarts 14 = .ok (.iload_n 1, 1) := by decide +kernel
theorem dX10_restarts_15 : decode cX10_restarts 15 = .ok (.invokevirtual 356, 3) := by decide +kernel
theorem dX10_restarts_18 : decode cX10_restarts 18 = .ok (.idiv, 1) := by decide +kernel
theorem dX10_restarts_19 : decode cX10_restarts 19 = .ok (.iconst 1, 1) := by decide +kernel
theorem dX10_restarts_20 : decode cX10_restarts 20 = .ok (.iadd, 1) := by decide +kernel
theorem dX10_restarts_21 : decode cX10_restarts 21 = .ok (.aload_n 0, 1) := by decide +kernel
theorem dX10_restarts_22 : decode cX10_restarts 22 = .ok (.iload_n 1, 1) := by decide +kernel
theorem dX10_restarts_23 : decode cX10_restarts 23 = .ok (.invokevirtual 356, 3) := by decide +kernel
theorem dX10_restarts_26 : decode cX10_restarts 26 = .ok (.imul, 1) := by decide +kernel
theorem dX10_restarts_27 : decode cX10_restarts 27 = .ok (.iastore, 1) := by decide +kernel
theorem dX10_restarts_28 : decode cX10_restarts 28 = .ok (.aload_n 0, 1) := by decide +kernel
theorem dX10_restarts_29 : decode cX10_restarts 29 = .ok (.getfield 76, 3) := by decide +kernel
theorem dX10_restarts_32 : decode cX10_restarts 32 = .ok (.iload_n 1, 1) := by decide +kernel
theorem dX10_restarts_33 : decode cX10_restarts 33 = .ok (.iconst 1, 1) := by decide +kernel
theorem dX10_restarts_34 : decode cX10_restarts 34 = .ok (.iastore, 1) := by decide +kernel
theorem dX10_restarts_35 : decode cX10_restarts 35 = .ok (.aload_n 0, 1) := by decide +kernel
theorem dX10_restarts_36 : decode cX10_restarts 36 = .ok (.getfield 79, 3) := by decide +kernel
theorem dX10_restarts_39 : decode cX10_restarts 39 = .ok (.iload_n 1, 1) := by decide +kernel
theorem dX10_restarts_40 : decode cX10_restarts 40 = .ok (.aload_n 0, 1) := by decide +kernel
theorem dX10_restarts_41 : decode cX10_restarts 41 = .ok (.getfield 61, 3) := by decide +kernel
theorem dX10_restarts_44 : decode cX10_restarts 44 = .ok (.iload_n 1, 1) := by decide +kernel
theorem dX10_restarts_45 : decode cX10_restarts 45 = .ok (.iaload, 1) := by decide +kernel
theorem dX10_restarts_46 : decode cX10_restarts 46 = .ok (.iconst 1, 1) := by decide +kernel
theorem dX10_restarts_47 : decode cX10_restarts 47 = .ok (.isub, 1) := by decide +kernel
theorem dX10_restarts_48 : decode cX10_restarts 48 = .ok (.iastore, 1) := by decide +kernel
theorem dX10_restarts_49 : decode cX10_restarts 49 = .ok (.aload_n 0, 1) := by decide +kernel
theorem dX10_restarts_50 : decode cX10_restarts 50 = .ok (.getfield 82, 3) := by decide +kernel
theorem dX10_restarts_53 : decode cX10_restarts 53 = .ok (.iload_n 1, 1) := by decide +kernel
theorem dX10_restarts_54 : decode cX10_restarts 54 = .ok (.iconst 0, 1) := by decide +kernel
theorem dX10_restarts_55 : decode cX10_restarts 55 = .ok (.bastore, 1) := by decide +kernel
theorem dX10_restarts_56 : decode cX10_restarts 56 = .ok (.return_, 1) := by decide +kernel
theorem dX10_isUnder_0 : decode cX10_isUnder 0 = .ok (.iload_n 1, 1) := by decide +kernel
theorem dX10_isUnder_1 : decode cX10_isUnder 1 = .ok (.istore_n 3, 1) := by decide +kernel
theorem dX10_isUnder_2 : decode cX10_isUnder 2 = .ok (.iload_n 3, 1) := by decide +kernel
theorem dX10_isUnder_3 : decode cX10_isUnder 3 = .ok (.iload_n 2, 1) := by decide +kernel
theorem dX10_isUnder_4 : decode cX10_isUnder 4 = .ok (.if_icmp .eq 20, 3) := by decide +kernel
theorem dX10_isUnder_7 : decode cX10_isUnder 7 = .ok (.iload_n 3, 1) := by decide +kernel
theorem dX10_isUnder_8 : decode cX10_isUnder 8 = .ok (.ifCond .le 16, 3) := by decide +kernel
theorem dX10_isUnder_11 : decode cX10_isUnder 11 = .ok (.aload_n 0, 1) := by decide +kernel
theorem dX10_isUnder_12 : decode cX10_isUnder 12 = .ok (.getfield 9, 3) := by decide +kernel
theorem dX10_isUnder_15 : decode cX10_isUnder 15 = .ok (.bipush 8, 2) := by decide +kernel
theorem dX10_isUnder_17 : decode cX10_isUnder 17 = .ok (.iload_n 3, 1) := by decide +kernel
theorem dX10_isUnder_18 : decode cX10_isUnder 18 = .ok (.iadd, 1) := by decide +kernel
theorem dX10_isUnder_19 : decode cX10_isUnder 19 = .ok (.iaload, 1) := by decide +kernel
theorem dX10_isUnder_20 : decode cX10_isUnder 20 = .ok (.istore_n 3, 1) := by decide +kernel
theorem dX10_isUnder_21 : decode cX10_isUnder 21 = .ok (.goto (-19), 3) := by decide +kernel
theorem dX10_isUnder_24 : decode cX10_isUnder 24 = .ok (.iload_n 3, 1) := by decide +kernel
theorem dX10_isUnder_25 : decode cX10_isUnder 25 = .ok (.iload_n 2, 1) := by decide +kernel
theorem dX10_isUnder_26 : decode cX10_isUnder 26 = .ok (.if_icmp .ne 7, 3) := by decide +kernel
theorem dX10_isUnder_29 : decode cX10_isUnder 29 = .ok (.iconst 1, 1) := by decide +kernel
theorem dX10_isUnder_30 : decode cX10_isUnder 30 = .ok (.goto 4, 3) := by decide +kernel
theorem dX10_isUnder_33 : decode cX10_isUnder 33 = .ok (.iconst 0, 1) := by decide +kernel
theorem dX10_isUnder_34 : decode cX10_isUnder 34 = .ok (.ireturn, 1) := by decide +kernel
theorem dX10_resets_0 : decode cX10_resets 0 = .ok (.iconst 0, 1) := by decide +kernel
theorem dX10_resets_1 : decode cX10_resets 1 = .ok (.istore_n 3, 1) := by decide +kernel
theorem dX10_resets_2 : decode cX10_resets 2 = .ok (.iload_n 3, 1) := by decide +kernel
theorem dX10_resets_3 : decode cX10_resets 3 = .ok (.aload_n 0, 1) := by decide +kernel
theorem dX10_resets_4 : decode cX10_resets 4 = .ok (.getfield 9, 3) := by decide +kernel
theorem dX10_resets_7 : decode cX10_resets 7 = .ok (.iconst 4, 1) := by decide +kernel
theorem dX10_resets_8 : decode cX10_resets 8 = .ok (.iaload, 1) := by decide +kernel
theorem dX10_resets_9 : decode cX10_resets 9 = .ok (.if_icmp .ge 29, 3) := by decide +kernel
theorem dX10_resets_12 : decode cX10_resets 12 = .ok (.aload_n 0, 1) := by decide +kernel
theorem dX10_resets_13 : decode cX10_resets 13 = .ok (.aload_n 0, 1) := by decide +kernel
theorem dX10_resets_14 : decode cX10_resets 14 = .ok (.iload_n 3, 1) := by decide +kernel
theorem dX10_resets_15 : decode cX10_resets 15 = .ok (.iconst 0, 1) := by decide +kernel
theorem dX10_resets_16 : decode cX10_resets 16 = .ok (.invokevirtual 156, 3) := by decide +kernel
theorem dX10_resets_19 : decode cX10_resets 19 = .ok (.iload_n 1, 1) := by decide +kernel
theorem dX10_resets_20 : decode cX10_resets 20 = .ok (.invokevirtual 430, 3) := by decide +kernel
theorem dX10_resets_23 : decode cX10_resets 23 = .ok (.ifCond .eq 9, 3) := by decide +kernel
theorem dX10_resets_26 : decode cX10_resets 26 = .ok (.aload_n 0, 1) := by decide +kernel
theorem dX10_resets_27 : decode cX10_resets 27 = .ok (.iload_n 3, 1) := by decide +kernel
theorem dX10_resets_28 : decode cX10_resets 28 = .ok (.iload_n 2, 1) := by decide +kernel
theorem dX10_resets_29 : decode cX10_resets 29 = .ok (.invokevirtual 433, 3) := by decide +kernel
theorem dX10_resets_32 : decode cX10_resets 32 = .ok (.iinc 3 1, 3) := by decide +kernel
theorem dX10_resets_35 : decode cX10_resets 35 = .ok (.goto (-33), 3) := by decide +kernel
theorem dX10_resets_38 : decode cX10_resets 38 = .ok (.iconst 0, 1) := by decide +kernel
theorem dX10_resets_39 : decode cX10_resets 39 = .ok (.istore_n 3, 1) := by decide +kernel
theorem dX10_resets_40 : decode cX10_resets 40 = .ok (.iload_n 3, 1) := by decide +kernel
theorem dX10_resets_41 : decode cX10_resets 41 = .ok (.aload_n 0, 1) := by decide +kernel
theorem dX10_resets_42 : decode cX10_resets 42 = .ok (.getfield 9, 3) := by decide +kernel
theorem dX10_resets_45 : decode cX10_resets 45 = .ok (.iconst 3, 1) := by decide +kernel
theorem dX10_resets_46 : decode cX10_resets 46 = .ok (.iaload, 1) := by decide +kernel
theorem dX10_resets_47 : decode cX10_resets 47 = .ok (.if_icmp .ge 24, 3) := by decide +kernel
theorem dX10_resets_50 : decode cX10_resets 50 = .ok (.aload_n 0, 1) := by decide +kernel
theorem dX10_resets_51 : decode cX10_resets 51 = .ok (.iload_n 3, 1) := by decide +kernel
theorem dX10_resets_52 : decode cX10_resets 52 = .ok (.iload_n 1, 1) := by decide +kernel
theorem dX10_resets_53 : decode cX10_resets 53 = .ok (.invokevirtual 430, 3) := by decide +kernel
theorem dX10_resets_56 : decode cX10_resets 56 = .ok (.ifCond .eq 9, 3) := by decide +kernel
theorem dX10_resets_59 : decode cX10_resets 59 = .ok (.aload_n 0, 1) := by decide +kernel
theorem dX10_resets_60 : decode cX10_resets 60 = .ok (.iload_n 3, 1) := by decide +kernel
theorem dX10_resets_61 : decode cX10_resets 61 = .ok (.iload_n 2, 1) := by decide +kernel
theorem dX10_resets_62 : decode cX10_resets 62 = .ok (.invokevirtual 436, 3) := by decide +kernel
theorem dX10_resets_65 : decode cX10_resets 65 = .ok (.iinc 3 1, 3) := by decide +kernel
theorem dX10_resets_68 : decode cX10_resets 68 = .ok (.goto (-28), 3) := by decide +kernel
theorem dX10_resets_71 : decode cX10_resets 71 = .ok (.return_, 1) := by decide +kernel
theorem dX10_climbs_0 : decode cX10_climbs 0 = .ok (.iload_n 1, 1) := by decide +kernel
theorem dX10_climbs_1 : decode cX10_climbs 1 = .ok (.ifCond .ne 10, 3) := by decide +kernel
theorem dX10_climbs_4 : decode cX10_climbs 4 = .ok (.aload_n 0, 1) := by decide +kernel
theorem dX10_climbs_5 : decode cX10_climbs 5 = .ok (.iload_n 2, 1) := by decide +kernel
theorem dX10_climbs_6 : decode cX10_climbs 6 = .ok (.iload 4, 2) := by decide +kernel
theorem dX10_climbs_8 : decode cX10_climbs 8 = .ok (.invokevirtual 433, 3) := by decide +kernel
theorem dX10_climbs_11 : decode cX10_climbs 11 = .ok (.iload_n 1, 1) := by decide +kernel
theorem dX10_climbs_12 : decode cX10_climbs 12 = .ok (.iconst 1, 1) := by decide +kernel
theorem dX10_climbs_13 : decode cX10_climbs 13 = .ok (.if_icmp .ne 42, 3) := by decide +kernel
theorem dX10_climbs_16 : decode cX10_climbs 16 = .ok (.iconst 0, 1) := by decide +kernel
theorem dX10_climbs_17 : decode cX10_climbs 17 = .ok (.istore 5, 2) := by decide +kernel
theorem dX10_climbs_19 : decode cX10_climbs 19 = .ok (.iload 5, 2) := by decide +kernel
theorem dX10_climbs_21 : decode cX10_climbs 21 = .ok (.aload_n 0, 1) := by decide +kernel
theorem dX10_climbs_22 : decode cX10_climbs 22 = .ok (.getfield 9, 3) := by decide +kernel
theorem dX10_climbs_25 : decode cX10_climbs 25 = .ok (.iconst 4, 1) := by decide +kernel
theorem dX10_climbs_26 : decode cX10_climbs 26 = .ok (.iaload, 1) := by decide +kernel
theorem dX10_climbs_27 : decode cX10_climbs 27 = .ok (.if_icmp .ge 28, 3) := by decide +kernel
theorem dX10_climbs_30 : decode cX10_climbs 30 = .ok (.aload_n 0, 1) := by decide +kernel
theorem dX10_climbs_31 : decode cX10_climbs 31 = .ok (.iload 5, 2) := by decide +kernel
theorem dX10_climbs_33 : decode cX10_climbs 33 = .ok (.iconst 0, 1) := by decide +kernel
theorem dX10_climbs_34 : decode cX10_climbs 34 = .ok (.invokevirtual 156, 3) := by decide +kernel
theorem dX10_climbs_37 : decode cX10_climbs 37 = .ok (.iload_n 3, 1) := by decide +kernel
theorem dX10_climbs_38 : decode cX10_climbs 38 = .ok (.if_icmp .ne 11, 3) := by decide +kernel
theorem dX10_climbs_41 : decode cX10_climbs 41 = .ok (.aload_n 0, 1) := by decide +kernel
theorem dX10_climbs_42 : decode cX10_climbs 42 = .ok (.iload 5, 2) := by decide +kernel
theorem dX10_climbs_44 : decode cX10_climbs 44 = .ok (.iload 4, 2) := by decide +kernel
theorem dX10_climbs_46 : decode cX10_climbs 46 = .ok (.invokevirtual 433, 3) := by decide +kernel
theorem dX10_climbs_49 : decode cX10_climbs 49 = .ok (.iinc 5 1, 3) := by decide +kernel
theorem dX10_climbs_52 : decode cX10_climbs 52 = .ok (.goto (-33), 3) := by decide +kernel
theorem dX10_climbs_55 : decode cX10_climbs 55 = .ok (.iload_n 1, 1) := by decide +kernel
theorem dX10_climbs_56 : decode cX10_climbs 56 = .ok (.iconst 2, 1) := by decide +kernel
theorem dX10_climbs_57 : decode cX10_climbs 57 = .ok (.if_icmp .ne 10, 3) := by decide +kernel
theorem dX10_climbs_60 : decode cX10_climbs 60 = .ok (.aload_n 0, 1) := by decide +kernel
theorem dX10_climbs_61 : decode cX10_climbs 61 = .ok (.iload_n 3, 1) := by decide +kernel
theorem dX10_climbs_62 : decode cX10_climbs 62 = .ok (.iload 4, 2) := by decide +kernel
theorem dX10_climbs_64 : decode cX10_climbs 64 = .ok (.invokevirtual 439, 3) := by decide +kernel
theorem dX10_climbs_67 : decode cX10_climbs 67 = .ok (.iload_n 1, 1) := by decide +kernel
theorem dX10_climbs_68 : decode cX10_climbs 68 = .ok (.iconst 3, 1) := by decide +kernel
theorem dX10_climbs_69 : decode cX10_climbs 69 = .ok (.if_icmp .ge 4, 3) := by decide +kernel
theorem dX10_climbs_72 : decode cX10_climbs 72 = .ok (.return_, 1) := by decide +kernel
theorem dX10_climbs_73 : decode cX10_climbs 73 = .ok (.iconst 0, 1) := by decide +kernel
theorem dX10_climbs_74 : decode cX10_climbs 74 = .ok (.istore 5, 2) := by decide +kernel
theorem dX10_climbs_76 : decode cX10_climbs 76 = .ok (.iload 5, 2) := by decide +kernel
theorem dX10_climbs_78 : decode cX10_climbs 78 = .ok (.aload_n 0, 1) := by decide +kernel
theorem dX10_climbs_79 : decode cX10_climbs 79 = .ok (.getfield 9, 3) := by decide +kernel
theorem dX10_climbs_82 : decode cX10_climbs 82 = .ok (.iconst 4, 1) := by decide +kernel
theorem dX10_climbs_83 : decode cX10_climbs 83 = .ok (.iaload, 1) := by decide +kernel
theorem dX10_climbs_84 : decode cX10_climbs 84 = .ok (.if_icmp .ge 17, 3) := by decide +kernel
theorem dX10_climbs_87 : decode cX10_climbs 87 = .ok (.aload_n 0, 1) := by decide +kernel
theorem dX10_climbs_88 : decode cX10_climbs 88 = .ok (.iload 5, 2) := by decide +kernel
theorem dX10_climbs_90 : decode cX10_climbs 90 = .ok (.iload 4, 2) := by decide +kernel
theorem dX10_climbs_92 : decode cX10_climbs 92 = .ok (.invokevirtual 433, 3) := by decide +kernel
theorem dX10_climbs_95 : decode cX10_climbs 95 = .ok (.iinc 5 1, 3) := by decide +kernel
theorem dX10_climbs_98 : decode cX10_climbs 98 = .ok (.goto (-22), 3) := by decide +kernel
theorem dX10_climbs_101 : decode cX10_climbs 101 = .ok (.iconst 0, 1) := by decide +kernel
theorem dX10_climbs_102 : decode cX10_climbs 102 = .ok (.istore 5, 2) := by decide +kernel
theorem dX10_climbs_104 : decode cX10_climbs 104 = .ok (.iload 5, 2) := by decide +kernel
theorem dX10_climbs_106 : decode cX10_climbs 106 = .ok (.aload_n 0, 1) := by decide +kernel
theorem dX10_climbs_107 : decode cX10_climbs 107 = .ok (.getfield 9, 3) := by decide +kernel
theorem dX10_climbs_110 : decode cX10_climbs 110 = .ok (.iconst 3, 1) := by decide +kernel
theorem dX10_climbs_111 : decode cX10_climbs 111 = .ok (.iaload, 1) := by decide +kernel
theorem dX10_climbs_112 : decode cX10_climbs 112 = .ok (.if_icmp .ge 17, 3) := by decide +kernel
theorem dX10_climbs_115 : decode cX10_climbs 115 = .ok (.aload_n 0, 1) := by decide +kernel
theorem dX10_climbs_116 : decode cX10_climbs 116 = .ok (.iload 5, 2) := by decide +kernel
theorem dX10_climbs_118 : decode cX10_climbs 118 = .ok (.iload 4, 2) := by decide +kernel
theorem dX10_climbs_120 : decode cX10_climbs 120 = .ok (.invokevirtual 436, 3) := by decide +kernel
theorem dX10_climbs_123 : decode cX10_climbs 123 = .ok (.iinc 5 1, 3) := by decide +kernel
theorem dX10_climbs_126 : decode cX10_climbs 126 = .ok (.goto (-22), 3) := by decide +kernel
theorem dX10_climbs_129 : decode cX10_climbs 129 = .ok (.aload_n 0, 1) := by decide +kernel
theorem dX10_climbs_130 : decode cX10_climbs 130 = .ok (.iconst 1, 1) := by decide +kernel
theorem dX10_climbs_131 : decode cX10_climbs 131 = .ok (.putfield 442, 3) := by decide +kernel
theorem dX10_climbs_134 : decode cX10_climbs 134 = .ok (.aload_n 0, 1) := by decide +kernel
theorem dX10_climbs_135 : decode cX10_climbs 135 = .ok (.dup, 1) := by decide +kernel
theorem dX10_climbs_136 : decode cX10_climbs 136 = .ok (.getfield 421, 3) := by decide +kernel
theorem dX10_climbs_139 : decode cX10_climbs 139 = .ok (.iconst 1, 1) := by decide +kernel
theorem dX10_climbs_140 : decode cX10_climbs 140 = .ok (.iadd, 1) := by decide +kernel
theorem dX10_climbs_141 : decode cX10_climbs 141 = .ok (.putfield 421, 3) := by decide +kernel
theorem dX10_climbs_144 : decode cX10_climbs 144 = .ok (.aload_n 0, 1) := by decide +kernel
theorem dX10_climbs_145 : decode cX10_climbs 145 = .ok (.getfield 421, 3) := by decide +kernel
theorem dX10_climbs_148 : decode cX10_climbs 148 = .ok (.iconst 3, 1) := by decide +kernel
theorem dX10_climbs_149 : decode cX10_climbs 149 = .ok (.if_icmp .ne 9, 3) := by decide +kernel
theorem dX10_climbs_152 : decode cX10_climbs 152 = .ok (.aload_n 0, 1) := by decide +kernel
theorem dX10_climbs_153 : decode cX10_climbs 153 = .ok (.iload 4, 2) := by decide +kernel
theorem dX10_climbs_155 : decode cX10_climbs 155 = .ok (.putfield 424, 3) := by decide +kernel
theorem dX10_climbs_158 : decode cX10_climbs 158 = .ok (.return_, 1) := by decide +kernel
theorem dX10_records_0 : decode cX10_records 0 = .ok (.aload_n 0, 1) := by decide +kernel
theorem dX10_records_1 : decode cX10_records 1 = .ok (.getfield 135, 3) := by decide +kernel
theorem dX10_records_4 : decode cX10_records 4 = .ok (.aload_n 0, 1) := by decide +kernel
theorem dX10_records_5 : decode cX10_records 5 = .ok (.getfield 418, 3) := by decide +kernel
theorem dX10_records_8 : decode cX10_records 8 = .ok (.iload_n 1, 1) := by decide +kernel
theorem dX10_records_9 : decode cX10_records 9 = .ok (.iastore, 1) := by decide +kernel
theorem dX10_records_10 : decode cX10_records 10 = .ok (.aload_n 0, 1) := by decide +kernel
theorem dX10_records_11 : decode cX10_records 11 = .ok (.getfield 138, 3) := by decide +kernel
theorem dX10_records_14 : decode cX10_records 14 = .ok (.aload_n 0, 1) := by decide +kernel
theorem dX10_records_15 : decode cX10_records 15 = .ok (.getfield 418, 3) := by decide +kernel
theorem dX10_records_18 : decode cX10_records 18 = .ok (.iload_n 2, 1) := by decide +kernel
theorem dX10_records_19 : decode cX10_records 19 = .ok (.iastore, 1) := by decide +kernel
theorem dX10_records_20 : decode cX10_records 20 = .ok (.aload_n 0, 1) := by decide +kernel
theorem dX10_records_21 : decode cX10_records 21 = .ok (.getfield 141, 3) := by decide +kernel
theorem dX10_records_24 : decode cX10_records 24 = .ok (.aload_n 0, 1) := by decide +kernel
theorem dX10_records_25 : decode cX10_records 25 = .ok (.getfield 418, 3) := by decide +kernel
theorem dX10_records_28 : decode cX10_records 28 = .ok (.iload_n 3, 1) := by decide +kernel
theorem dX10_records_29 : decode cX10_records 29 = .ok (.iastore, 1) := by decide +kernel
theorem dX10_records_30 : decode cX10_records 30 = .ok (.aload_n 0, 1) := by decide +kernel
theorem dX10_records_31 : decode cX10_records 31 = .ok (.getfield 144, 3) := by decide +kernel
theorem dX10_records_34 : decode cX10_records 34 = .ok (.aload_n 0, 1) := by decide +kernel
theorem dX10_records_35 : decode cX10_records 35 = .ok (.getfield 418, 3) := by decide +kernel
theorem dX10_records_38 : decode cX10_records 38 = .ok (.iload 4, 2) := by decide +kernel
theorem dX10_records_40 : decode cX10_records 40 = .ok (.iastore, 1) := by decide +kernel
theorem dX10_records_41 : decode cX10_records 41 = .ok (.aload_n 0, 1) := by decide +kernel
theorem dX10_records_42 : decode cX10_records 42 = .ok (.dup, 1) := by decide +kernel
theorem dX10_records_43 : decode cX10_records 43 = .ok (.getfield 418, 3) := by decide +kernel
theorem dX10_records_46 : decode cX10_records 46 = .ok (.iconst 1, 1) := by decide +kernel
theorem dX10_records_47 : decode cX10_records 47 = .ok (.iadd, 1) := by decide +kernel
theorem dX10_records_48 : decode cX10_records 48 = .ok (.putfield 418, 3) := by decide +kernel
theorem dX10_records_51 : decode cX10_records 51 = .ok (.return_, 1) := by decide +kernel
theorem dX10_faultOf_0 : decode cX10_faultOf 0 = .ok (.aload_n 0, 1) := by decide +kernel
theorem dX10_faultOf_1 : decode cX10_faultOf 1 = .ok (.getfield 88, 3) := by decide +kernel
theorem dX10_faultOf_4 : decode cX10_faultOf 4 = .ok (.iload_n 1, 1) := by decide +kernel
theorem dX10_faultOf_5 : decode cX10_faultOf 5 = .ok (.dup2, 1) := by decide +kernel
theorem dX10_faultOf_6 : decode cX10_faultOf 6 = .ok (.iaload, 1) := by decide +kernel
theorem dX10_faultOf_7 : decode cX10_faultOf 7 = .ok (.iconst 1, 1) := by decide +kernel
theorem dX10_faultOf_8 : decode cX10_faultOf 8 = .ok (.iadd, 1) := by decide +kernel
theorem dX10_faultOf_9 : decode cX10_faultOf 9 = .ok (.iastore, 1) := by decide +kernel
theorem dX10_faultOf_10 : decode cX10_faultOf 10 = .ok (.aload_n 0, 1) := by decide +kernel
theorem dX10_faultOf_11 : decode cX10_faultOf 11 = .ok (.getfield 91, 3) := by decide +kernel
theorem dX10_faultOf_14 : decode cX10_faultOf 14 = .ok (.iload_n 1, 1) := by decide +kernel
theorem dX10_faultOf_15 : decode cX10_faultOf 15 = .ok (.aload_n 0, 1) := by decide +kernel
theorem dX10_faultOf_16 : decode cX10_faultOf 16 = .ok (.getfield 91, 3) := by decide +kernel
theorem dX10_faultOf_19 : decode cX10_faultOf 19 = .ok (.iload_n 1, 1) := by decide +kernel
theorem dX10_faultOf_20 : decode cX10_faultOf 20 = .ok (.faload, 1) := by decide +kernel
theorem dX10_faultOf_21 : decode cX10_faultOf 21 = .ok (.fconst 2, 1) := by decide +kernel
theorem dX10_faultOf_22 : decode cX10_faultOf 22 = .ok (.fdiv, 1) := by decide +kernel
theorem dX10_faultOf_23 : decode cX10_faultOf 23 = .ok (.fastore, 1) := by decide +kernel
theorem dX10_faultOf_24 : decode cX10_faultOf 24 = .ok (.aload_n 0, 1) := by decide +kernel
theorem dX10_faultOf_25 : decode cX10_faultOf 25 = .ok (.getfield 95, 3) := by decide +kernel
theorem dX10_faultOf_28 : decode cX10_faultOf 28 = .ok (.iload_n 1, 1) := by decide +kernel
theorem dX10_faultOf_29 : decode cX10_faultOf 29 = .ok (.iconst 0, 1) := by decide +kernel
theorem dX10_faultOf_30 : decode cX10_faultOf 30 = .ok (.iastore, 1) := by decide +kernel
theorem dX10_faultOf_31 : decode cX10_faultOf 31 = .ok (.aload_n 0, 1) := by decide +kernel
theorem dX10_faultOf_32 : decode cX10_faultOf 32 = .ok (.getfield 98, 3) := by decide +kernel
theorem dX10_faultOf_35 : decode cX10_faultOf 35 = .ok (.iload_n 1, 1) := by decide +kernel
theorem dX10_faultOf_36 : decode cX10_faultOf 36 = .ok (.iconst 1, 1) := by decide +kernel
theorem dX10_faultOf_37 : decode cX10_faultOf 37 = .ok (.bastore, 1) := by decide +kernel
theorem dX10_faultOf_38 : decode cX10_faultOf 38 = .ok (.iconst 3, 1) := by decide +kernel
theorem dX10_faultOf_39 : decode cX10_faultOf 39 = .ok (.aload_n 0, 1) := by decide +kernel
theorem dX10_faultOf_40 : decode cX10_faultOf 40 = .ok (.getfield 88, 3) := by decide +kernel
theorem dX10_faultOf_43 : decode cX10_faultOf 43 = .ok (.iload_n 1, 1) := by decide +kernel
theorem dX10_faultOf_44 : decode cX10_faultOf 44 = .ok (.iaload, 1) := by decide +kernel
theorem dX10_faultOf_45 : decode cX10_faultOf 45 = .ok (.iconst 1, 1) := by decide +kernel
theorem dX10_faultOf_46 : decode cX10_faultOf 46 = .ok (.isub, 1) := by decide +kernel
theorem dX10_faultOf_47 : decode cX10_faultOf 47 = .ok (.aload_n 0, 1) := by decide +kernel
theorem dX10_faultOf_48 : decode cX10_faultOf 48 = .ok (.getfield 91, 3) := by decide +kernel
theorem dX10_faultOf_51 : decode cX10_faultOf 51 = .ok (.iload_n 1, 1) := by decide +kernel
theorem dX10_faultOf_52 : decode cX10_faultOf 52 = .ok (.faload, 1) := by decide +kernel
theorem dX10_faultOf_53 : decode cX10_faultOf 53 = .ok (.aload_n 0, 1) := by decide +kernel
theorem dX10_faultOf_54 : decode cX10_faultOf 54 = .ok (.getfield 9, 3) := by decide +kernel
theorem dX10_faultOf_57 : decode cX10_faultOf 57 = .ok (.iconst 2, 1) := by decide +kernel
theorem dX10_faultOf_58 : decode cX10_faultOf 58 = .ok (.iaload, 1) := by decide +kernel
theorem dX10_faultOf_59 : decode cX10_faultOf 59 = .ok (.i2f, 1) := by decide +kernel
theorem dX10_faultOf_60 : decode cX10_faultOf 60 = .ok (.ldc_w 446, 3) := by decide +kernel
theorem dX10_faultOf_63 : decode cX10_faultOf 63 = .ok (.fdiv, 1) := by decide +kernel
theorem dX10_faultOf_64 : decode cX10_faultOf 64 = .ok (.fcmp .g, 1) := by decide +kernel
theorem dX10_faultOf_65 : decode cX10_faultOf 65 = .ok (.ifCond .ge 7, 3) := by decide +kernel
theorem dX10_faultOf_68 : decode cX10_faultOf 68 = .ok (.iconst 1, 1) := by decide +kernel
theorem dX10_faultOf_69 : decode cX10_faultOf 69 = .ok (.goto 4, 3) := by decide +kernel
theorem dX10_faultOf_72 : decode cX10_faultOf 72 = .ok (.iconst 0, 1) := by decide +kernel
theorem dX10_faultOf_73 : decode cX10_faultOf 73 = .ok (.iadd, 1) := by decide +kernel
theorem dX10_faultOf_74 : decode cX10_faultOf 74 = .ok (.invokestatic 191, 3) := by decide +kernel
theorem dX10_faultOf_77 : decode cX10_faultOf 77 = .ok (.istore 4, 2) := by decide +kernel
theorem dX10_faultOf_79 : decode cX10_faultOf 79 = .ok (.aload_n 0, 1) := by decide +kernel
theorem dX10_faultOf_80 : decode cX10_faultOf 80 = .ok (.iload_n 3, 1) := by decide +kernel
theorem dX10_faultOf_81 : decode cX10_faultOf 81 = .ok (.iload_n 2, 1) := by decide +kernel
theorem dX10_faultOf_82 : decode cX10_faultOf 82 = .ok (.iload_n 1, 1) := by decide +kernel
theorem dX10_faultOf_83 : decode cX10_faultOf 83 = .ok (.iload 4, 2) := by decide +kernel
theorem dX10_faultOf_85 : decode cX10_faultOf 85 = .ok (.invokevirtual 447, 3) := by decide +kernel
theorem dX10_faultOf_88 : decode cX10_faultOf 88 = .ok (.aload_n 0, 1) := by decide +kernel
theorem dX10_faultOf_89 : decode cX10_faultOf 89 = .ok (.iload 4, 2) := by decide +kernel
theorem dX10_faultOf_91 : decode cX10_faultOf 91 = .ok (.iload_n 1, 1) := by decide +kernel
theorem dX10_faultOf_92 : decode cX10_faultOf 92 = .ok (.aload_n 0, 1) := by decide +kernel
theorem dX10_faultOf_93 : decode cX10_faultOf 93 = .ok (.iload_n 1, 1) := by decide +kernel
theorem dX10_faultOf_94 : decode cX10_faultOf 94 = .ok (.iconst 0, 1) := by decide +kernel
theorem dX10_faultOf_95 : decode cX10_faultOf 95 = .ok (.invokevirtual 156, 3) := by decide +kernel
theorem dX10_faultOf_98 : decode cX10_faultOf 98 = .ok (.iload_n 3, 1) := by decide +kernel
theorem dX10_faultOf_99 : decode cX10_faultOf 99 = .ok (.invokevirtual 450, 3) := by decide +kernel
theorem dX10_faultOf_102 : decode cX10_faultOf 102 = .ok (.return_, 1) := by decide +kernel
theorem dX10_begins_0 : decode cX10_begins 0 = .ok (.iconst 0, 1) := by decide +kernel
theorem dX10_begins_1 : decode cX10_begins 1 = .ok (.istore_n 2, 1) := by decide +kernel
theorem dX10_begins_2 : decode cX10_begins 2 = .ok (.iload_n 2, 1) := by decide +kernel
theorem dX10_begins_3 : decode cX10_begins 3 = .ok (.aload_n 0, 1) := by decide +kernel
theorem dX10_begins_4 : decode cX10_begins 4 = .ok (.getfield 9, 3) := by decide +kernel
theorem dX10_begins_7 : decode cX10_begins 7 = .ok (.iconst 4, 1) := by decide +kernel
theorem dX10_begins_8 : decode cX10_begins 8 = .ok (.iaload, 1) := by decide +kernel
theorem dX10_begins_9 : decode cX10_begins 9 = .ok (.if_icmp .ge 106, 3) := by decide +kernel
theorem dX10_begins_12 : decode cX10_begins 12 = .ok (.iload_n 1, 1) := by decide +kernel
theorem dX10_begins_13 : decode cX10_begins 13 = .ok (.aload_n 0, 1) := by decide +kernel
theorem dX10_begins_14 : decode cX10_begins 14 = .ok (.getfield 61, 3) := by decide +kernel
theorem dX10_begins_17 : decode cX10_begins 17 = .ok (.iload_n 2, 1) := by decide +kernel
theorem dX10_begins_18 : decode cX10_begins 18 = .ok (.iaload, 1) := by decide +kernel
theorem dX10_begins_19 : decode cX10_begins 19 = .ok (.if_icmp .lt 90, 3) := by decide +kernel
theorem dX10_begins_22 : decode cX10_begins 22 = .ok (.iload_n 1, 1) := by decide +kernel
theorem dX10_begins_23 : decode cX10_begins 23 = .ok (.aload_n 0, 1) := by decide +kernel
theorem dX10_begins_24 : decode cX10_begins 24 = .ok (.iload_n 2, 1) := by decide +kernel
theorem dX10_begins_25 : decode cX10_begins 25 = .ok (.invokevirtual 356, 3) := by decide +kernel
theorem dX10_begins_28 : decode cX10_begins 28 = .ok (.irem, 1) := by decide +kernel
theorem dX10_begins_29 : decode cX10_begins 29 = .ok (.ifCond .ne 80, 3) := by decide +kernel
theorem dX10_begins_32 : decode cX10_begins 32 = .ok (.aload_n 0, 1) := by decide +kernel
theorem dX10_begins_33 : decode cX10_begins 33 = .ok (.getfield 64, 3) := by decide +kernel
theorem dX10_begins_36 : decode cX10_begins 36 = .ok (.iload_n 2, 1) := by decide +kernel
theorem dX10_begins_37 : decode cX10_begins 37 = .ok (.iaload, 1) := by decide +kernel
theorem dX10_begins_38 : decode cX10_begins 38 = .ok (.iconst (-1), 1) := by decide +kernel
theorem dX10_begins_39 : decode cX10_begins 39 = .ok (.if_icmp .eq 6, 3) := by decide +kernel
theorem dX10_begins_42 : decode cX10_begins 42 = .ok (.goto 67, 3) := by decide +kernel
theorem dX10_begins_45 : decode cX10_begins 45 = .ok (.aload_n 0, 1) := by decide +kernel
theorem dX10_begins_46 : decode cX10_begins 46 = .ok (.getfield 64, 3) := by decide +kernel
theorem dX10_begins_49 : decode cX10_begins 49 = .ok (.iload_n 2, 1) := by decide +kernel
theorem dX10_begins_50 : decode cX10_begins 50 = .ok (.aload_n 0, 1) := by decide +kernel
theorem dX10_begins_51 : decode cX10_begins 51 = .ok (.getfield 67, 3) := by decide +kernel
theorem dX10_begins_54 : decode cX10_begins 54 = .ok (.iload_n 2, 1) := by decide +kernel
theorem dX10_begins_55 : decode cX10_begins 55 = .ok (.iaload, 1) := by decide +kernel
theorem dX10_begins_56 : decode cX10_begins 56 = .ok (.iastore, 1) := by decide +kernel
theorem dX10_begins_57 : decode cX10_begins 57 = .ok (.aload_n 0, 1) := by decide +kernel
theorem dX10_begins_58 : decode cX10_begins 58 = .ok (.getfield 67, 3) := by decide +kernel
theorem dX10_begins_61 : decode cX10_begins 61 = .ok (.iload_n 2, 1) := by decide +kernel
theorem dX10_begins_62 : decode cX10_begins 62 = .ok (.iaload, 1) := by decide +kernel
theorem dX10_begins_63 : decode cX10_begins 63 = .ok (.bipush 51, 2) := by decide +kernel
theorem dX10_begins_65 : decode cX10_begins 65 = .ok (.if_icmp .ge 20, 3) := by decide +kernel
theorem dX10_begins_68 : decode cX10_begins 68 = .ok (.aload_n 0, 1) := by decide +kernel
theorem dX10_begins_69 : decode cX10_begins 69 = .ok (.getfield 120, 3) := by decide +kernel
theorem dX10_begins_72 : decode cX10_begins 72 = .ok (.bipush 51, 2) := by decide +kernel
theorem dX10_begins_74 : decode cX10_begins 74 = .ok (.iload_n 2, 1) := by decide +kernel
theorem dX10_begins_75 : decode cX10_begins 75 = .ok (.imul, 1) := by decide +kernel
theorem dX10_begins_76 : decode cX10_begins 76 = .ok (.aload_n 0, 1) := by decide +kernel
theorem dX10_begins_77 : decode cX10_begins 77 = .ok (.getfield 67, 3) := by decide +kernel
theorem dX10_begins_80 : decode cX10_begins 80 = .ok (.iload_n 2, 1) := by decide +kernel
theorem dX10_begins_81 : decode cX10_begins 81 = .ok (.iaload, 1) := by decide +kernel
theorem dX10_begins_82 : decode cX10_begins 82 = .ok (.iadd, 1) := by decide +kernel
theorem dX10_begins_83 : decode cX10_begins 83 = .ok (.iload_n 1, 1) := by decide +kernel
theorem dX10_begins_84 : decode cX10_begins 84 = .ok (.iastore, 1) := by decide +kernel
theorem dX10_begins_85 : decode cX10_begins 85 = .ok (.aload_n 0, 1) := by decide +kernel
theorem dX10_begins_86 : decode cX10_begins 86 = .ok (.getfield 67, 3) := by decide +kernel
theorem dX10_begins_89 : decode cX10_begins 89 = .ok (.iload_n 2, 1) := by decide +kernel
theorem dX10_begins_90 : decode cX10_begins 90 = .ok (.dup2, 1) := by decide +kernel
theorem dX10_begins_91 : decode cX10_begins 91 = .ok (.iaload, 1) := by decide +kernel
theorem dX10_begins_92 : decode cX10_begins 92 = .ok (.iconst 1, 1) := by decide +kernel
theorem dX10_begins_93 : decode cX10_begins 93 = .ok (.iadd, 1) := by decide +kernel
theorem dX10_begins_94 : decode cX10_begins 94 = .ok (.iastore, 1) := by decide +kernel
theorem dX10_begins_95 : decode cX10_begins 95 = .ok (.aload_n 0, 1) := by decide +kernel
theorem dX10_begins_96 : decode cX10_begins 96 = .ok (.getfield 70, 3) := by decide +kernel
theorem dX10_begins_99 : decode cX10_begins 99 = .ok (.iload_n 2, 1) := by decide +kernel
theorem dX10_begins_100 : decode cX10_begins 100 = .ok (.iconst 0, 1) := by decide +kernel
theorem dX10_begins_101 : decode cX10_begins 101 = .ok (.iastore, 1) := by decide +kernel
theorem dX10_begins_102 : decode cX10_begins 102 = .ok (.aload_n 0, 1) := by decide +kernel
theorem dX10_begins_103 : decode cX10_begins 103 = .ok (.getfield 73, 3) := by decide +kernel
theorem dX10_begins_106 : decode cX10_begins 106 = .ok (.iload_n 2, 1) := by decide +kernel
theorem dX10_begins_107 : decode cX10_begins 107 = .ok (.iconst 0, 1) := by decide +kernel
theorem dX10_begins_108 : decode cX10_begins 108 = .ok (.iastore, 1) := by decide +kernel
theorem dX10_begins_109 : decode cX10_begins 109 = .ok (.iinc 2 1, 3) := by decide +kernel
theorem dX10_begins_112 : decode cX10_begins 112 = .ok (.goto (-110), 3) := by decide +kernel
theorem dX10_begins_115 : decode cX10_begins 115 = .ok (.return_, 1) := by decide +kernel
theorem dX10_whoHas_0 : decode cX10_whoHas 0 = .ok (.iconst 0, 1) := by decide +kernel
theorem dX10_whoHas_1 : decode cX10_whoHas 1 = .ok (.istore_n 1, 1) := by decide +kernel
theorem dX10_whoHas_2 : decode cX10_whoHas 2 = .ok (.iload_n 1, 1) := by decide +kernel
theorem dX10_whoHas_3 : decode cX10_whoHas 3 = .ok (.aload_n 0, 1) := by decide +kernel
theorem dX10_whoHas_4 : decode cX10_whoHas 4 = .ok (.getfield 9, 3) := by decide +kernel
theorem dX10_whoHas_7 : decode cX10_whoHas 7 = .ok (.iconst 4, 1) := by decide +kernel
theorem dX10_whoHas_8 : decode cX10_whoHas 8 = .ok (.iaload, 1) := by decide +kernel
theorem dX10_whoHas_9 : decode cX10_whoHas 9 = .ok (.if_icmp .ge 36, 3) := by decide +kernel
theorem dX10_whoHas_12 : decode cX10_whoHas 12 = .ok (.aload_n 0, 1) := by decide +kernel
theorem dX10_whoHas_13 : decode cX10_whoHas 13 = .ok (.getfield 64, 3) := by decide +kernel
theorem dX10_whoHas_16 : decode cX10_whoHas 16 = .ok (.iload_n 1, 1) := by decide +kernel
theorem dX10_whoHas_17 : decode cX10_whoHas 17 = .ok (.iaload, 1) := by decide +kernel
theorem dX10_whoHas_18 : decode cX10_whoHas 18 = .ok (.iconst (-1), 1) := by decide +kernel
theorem dX10_whoHas_19 : decode cX10_whoHas 19 = .ok (.if_icmp .eq 20, 3) := by decide +kernel
theorem dX10_whoHas_22 : decode cX10_whoHas 22 = .ok (.aload_n 0, 1) := by decide +kernel
theorem dX10_whoHas_23 : decode cX10_whoHas 23 = .ok (.iload_n 1, 1) := by decide +kernel
theorem dX10_whoHas_24 : decode cX10_whoHas 24 = .ok (.aload_n 0, 1) := by decide +kernel
theorem dX10_whoHas_25 : decode cX10_whoHas 25 = .ok (.getfield 70, 3) := by decide +kernel
theorem dX10_whoHas_28 : decode cX10_whoHas 28 = .ok (.iload_n 1, 1) := by decide +kernel
theorem dX10_whoHas_29 : decode cX10_whoHas 29 = .ok (.iaload, 1) := by decide +kernel
theorem dX10_whoHas_30 : decode cX10_whoHas 30 = .ok (.invokevirtual 453, 3) := by decide +kernel
theorem dX10_whoHas_33 : decode cX10_whoHas 33 = .ok (.iconst 1, 1) := by decide +kernel
theorem dX10_whoHas_34 : decode cX10_whoHas 34 = .ok (.if_icmp .eq 5, 3) := by decide +kernel
theorem dX10_whoHas_37 : decode cX10_whoHas 37 = .ok (.iload_n 1, 1) := by decide +kernel
theorem dX10_whoHas_38 : decode cX10_whoHas 38 = .ok (.ireturn, 1) := by decide +kernel
theorem dX10_whoHas_39 : decode cX10_whoHas 39 = .ok (.iinc 1 1, 3) := by decide +kernel
theorem dX10_whoHas_42 : decode cX10_whoHas 42 = .ok (.goto (-40), 3) := by decide +kernel
theorem dX10_whoHas_45 : decode cX10_whoHas 45 = .ok (.iconst (-1), 1) := by decide +kernel
theorem dX10_whoHas_46 : decode cX10_whoHas 46 = .ok (.ireturn, 1) := by decide +kernel
theorem dX10_kickNow_0 : decode cX10_kickNow 0 = .ok (.iload_n 2, 1) := by decide +kernel
theorem dX10_kickNow_1 : decode cX10_kickNow 1 = .ok (.aload_n 0, 1) := by decide +kernel
theorem dX10_kickNow_2 : decode cX10_kickNow 2 = .ok (.getfield 79, 3) := by decide +kernel
theorem dX10_kickNow_5 : decode cX10_kickNow 5 = .ok (.iload_n 1, 1) := by decide +kernel
theorem dX10_kickNow_6 : decode cX10_kickNow 6 = .ok (.iaload, 1) := by decide +kernel
theorem dX10_kickNow_7 : decode cX10_kickNow 7 = .ok (.isub, 1) := by decide +kernel
theorem dX10_kickNow_8 : decode cX10_kickNow 8 = .ok (.istore_n 3, 1) := by decide +kernel
theorem dX10_kickNow_9 : decode cX10_kickNow 9 = .ok (.aload_n 0, 1) := by decide +kernel
theorem dX10_kickNow_10 : decode cX10_kickNow 10 = .ok (.iload_n 1, 1) := by decide +kernel
theorem dX10_kickNow_11 : decode cX10_kickNow 11 = .ok (.aload_n 0, 1) := by decide +kernel
theorem dX10_kickNow_12 : decode cX10_kickNow 12 = .ok (.getfield 70, 3) := by decide +kernel
theorem dX10_kickNow_15 : decode cX10_kickNow 15 = .ok (.iload_n 1, 1) := by decide +kernel
theorem dX10_kickNow_16 : decode cX10_kickNow 16 = .ok (.iaload, 1) := by decide +kernel
theorem dX10_kickNow_17 : decode cX10_kickNow 17 = .ok (.invokevirtual 324, 3) := by decide +kernel
theorem dX10_kickNow_20 : decode cX10_kickNow 20 = .ok (.ifCond .le 7, 3) := by decide +kernel
theorem dX10_kickNow_23 : decode cX10_kickNow 23 = .ok (.iconst 3, 1) := by decide +kernel
theorem dX10_kickNow_24 : decode cX10_kickNow 24 = .ok (.goto 38, 3) := by decide +kernel
theorem dX10_kickNow_27 : decode cX10_kickNow 27 = .ok (.aload_n 0, 1) := by decide +kernel
theorem dX10_kickNow_28 : decode cX10_kickNow 28 = .ok (.iload_n 1, 1) := by decide +kernel
theorem dX10_kickNow_29 : decode cX10_kickNow 29 = .ok (.invokevirtual 456, 3) := by decide +kernel
theorem dX10_kickNow_32 : decode cX10_kickNow 32 = .ok (.ifCond .eq 7, 3) := by decide +kernel
theorem dX10_kickNow_35 : decode cX10_kickNow 35 = .ok (.iconst 4, 1) := by decide +kernel
theorem dX10_kickNow_36 : decode cX10_kickNow 36 = .ok (.goto 26, 3) := by decide +kernel
theorem dX10_kickNow_39 : decode cX10_kickNow 39 = .ok (.aload_n 0, 1) := by decide +kernel
theorem dX10_kickNow_40 : decode cX10_kickNow 40 = .ok (.getfield 82, 3) := by decide +kernel
theorem dX10_kickNow_43 : decode cX10_kickNow 43 = .ok (.iload_n 1, 1) := by decide +kernel
theorem dX10_kickNow_44 : decode cX10_kickNow 44 = .ok (.baload, 1) := by decide +kernel
theorem dX10_kickNow_45 : decode cX10_kickNow 45 = .ok (.ifCond .eq 16, 3) := by decide +kernel
theorem dX10_kickNow_48 : decode cX10_kickNow 48 = .ok (.iload_n 3, 1) := by decide +kernel
theorem dX10_kickNow_49 : decode cX10_kickNow 49 = .ok (.aload_n 0, 1) := by decide +kernel
theorem dX10_kickNow_50 : decode cX10_kickNow 50 = .ok (.iload_n 1, 1) := by decide +kernel
theorem dX10_kickNow_51 : decode cX10_kickNow 51 = .ok (.invokevirtual 459, 3) := by decide +kernel
theorem dX10_kickNow_54 : decode cX10_kickNow 54 = .ok (.if_icmp .ge 7, 3) := by decide +kernel
theorem dX10_kickNow_57 : decode cX10_kickNow 57 = .ok (.iconst 1, 1) := by decide +kernel
theorem dX10_kickNow_58 : decode cX10_kickNow 58 = .ok (.goto 4, 3) := by decide +kernel
theorem dX10_kickNow_61 : decode cX10_kickNow 61 = .ok (.iconst 0, 1) := by decide +kernel
theorem dX10_kickNow_62 : decode cX10_kickNow 62 = .ok (.istore 4, 2) := by decide +kernel
theorem dX10_kickNow_64 : decode cX10_kickNow 64 = .ok (.aload_n 0, 1) := by decide +kernel
theorem dX10_kickNow_65 : decode cX10_kickNow 65 = .ok (.getfield 64, 3) := by decide +kernel
theorem dX10_kickNow_68 : decode cX10_kickNow 68 = .ok (.iload_n 1, 1) := by decide +kernel
theorem dX10_kickNow_69 : decode cX10_kickNow 69 = .ok (.iconst (-1), 1) := by decide +kernel
theorem dX10_kickNow_70 : decode cX10_kickNow 70 = .ok (.iastore, 1) := by decide +kernel
theorem dX10_kickNow_71 : decode cX10_kickNow 71 = .ok (.iload 4, 2) := by decide +kernel
theorem dX10_kickNow_73 : decode cX10_kickNow 73 = .ok (.ifCond .le 12, 3) := by decide +kernel
theorem dX10_kickNow_76 : decode cX10_kickNow 76 = .ok (.aload_n 0, 1) := by decide +kernel
theorem dX10_kickNow_77 : decode cX10_kickNow 77 = .ok (.iload_n 1, 1) := by decide +kernel
theorem dX10_kickNow_78 : decode cX10_kickNow 78 = .ok (.iload 4, 2) := by decide +kernel
