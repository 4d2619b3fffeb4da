theorem dX5_letWatchersLook_45 : decode cX5_letWatchersLook 45 = .ok (.baload, 1) := by decide +kernel
theorem dX5_letWatchersLook_46 : decode cX5_letWatchersLook 46 = .ok (.ifCond .ne 6, 3) := by decide +kernel
theorem dX5_letWatchersLook_49 : decode cX5_letWatchersLook 49 = .ok (.goto 99, 3) := by decide +kernel
theorem dX5_letWatchersLook_52 : decode cX5_letWatchersLook 52 = .ok (.iconst 0, 1) := by decide +kernel
theorem dX5_letWatchersLook_53 : decode cX5_letWatchersLook 53 = .ok (.istore_n 2, 1) := by decide +kernel
theorem dX5_letWatchersLook_54 : decode cX5_letWatchersLook 54 = .ok (.iload_n 2, 1) := by decide +kernel
theorem dX5_letWatchersLook_55 : decode cX5_letWatchersLook 55 = .ok (.aload_n 0, 1) := by decide +kernel
theorem dX5_letWatchersLook_56 : decode cX5_letWatchersLook 56 = .ok (.getfield 12, 3) := by decide +kernel
theorem dX5_letWatchersLook_59 : decode cX5_letWatchersLook 59 = .ok (.getfield 127, 3) := by decide +kernel
theorem dX5_letWatchersLook_62 : decode cX5_letWatchersLook 62 = .ok (.if_icmp .ge 31, 3) := by decide +kernel
theorem dX5_letWatchersLook_65 : decode cX5_letWatchersLook 65 = .ok (.aload_n 0, 1) := by decide +kernel
theorem dX5_letWatchersLook_66 : decode cX5_letWatchersLook 66 = .ok (.getfield 93, 3) := by decide +kernel
theorem dX5_letWatchersLook_69 : decode cX5_letWatchersLook 69 = .ok (.ifCond .ne 24, 3) := by decide +kernel
theorem dX5_letWatchersLook_72 : decode cX5_letWatchersLook 72 = .ok (.aload_n 0, 1) := by decide +kernel
theorem dX5_letWatchersLook_73 : decode cX5_letWatchersLook 73 = .ok (.iload_n 1, 1) := by decide +kernel
theorem dX5_letWatchersLook_74 : decode cX5_letWatchersLook 74 = .ok (.iload_n 2, 1) := by decide +kernel
theorem dX5_letWatchersLook_75 : decode cX5_letWatchersLook 75 = .ok (.invokevirtual 206, 3) := by decide +kernel
theorem dX5_letWatchersLook_78 : decode cX5_letWatchersLook 78 = .ok (.ifCond .eq 9, 3) := by decide +kernel
theorem dX5_letWatchersLook_81 : decode cX5_letWatchersLook 81 = .ok (.aload_n 0, 1) := by decide +kernel
theorem dX5_letWatchersLook_82 : decode cX5_letWatchersLook 82 = .ok (.iload_n 2, 1) := by decide +kernel
theorem dX5_letWatchersLook_83 : decode cX5_letWatchersLook 83 = .ok (.iconst 5, 1) := by decide +kernel
theorem dX5_letWatchersLook_84 : decode cX5_letWatchersLook 84 = .ok (.invokevirtual 183, 3) := by decide +kernel
theorem dX5_letWatchersLook_87 : decode cX5_letWatchersLook 87 = .ok (.iinc 2 1, 3) := by decide +kernel
theorem dX5_letWatchersLook_90 : decode cX5_letWatchersLook 90 = .ok (.goto (-36), 3) := by decide +kernel
theorem dX5_letWatchersLook_93 : decode cX5_letWatchersLook 93 = .ok (.iload_n 1, 1) := by decide +kernel
theorem dX5_letWatchersLook_94 : decode cX5_letWatchersLook 94 = .ok (.iconst 1, 1) := by decide +kernel
theorem dX5_letWatchersLook_95 : decode cX5_letWatchersLook 95 = .ok (.iadd, 1) := by decide +kernel
theorem dX5_letWatchersLook_96 : decode cX5_letWatchersLook 96 = .ok (.istore_n 2, 1) := by decide +kernel
theorem dX5_letWatchersLook_97 : decode cX5_letWatchersLook 97 = .ok (.iload_n 2, 1) := by decide +kernel
theorem dX5_letWatchersLook_98 : decode cX5_letWatchersLook 98 = .ok (.aload_n 0, 1) := by decide +kernel
theorem dX5_letWatchersLook_99 : decode cX5_letWatchersLook 99 = .ok (.getfield 12, 3) := by decide +kernel
theorem dX5_letWatchersLook_102 : decode cX5_letWatchersLook 102 = .ok (.getfield 200, 3) := by decide +kernel
theorem dX5_letWatchersLook_105 : decode cX5_letWatchersLook 105 = .ok (.if_icmp .ge 43, 3) := by decide +kernel
theorem dX5_letWatchersLook_108 : decode cX5_letWatchersLook 108 = .ok (.aload_n 0, 1) := by decide +kernel
theorem dX5_letWatchersLook_109 : decode cX5_letWatchersLook 109 = .ok (.getfield 93, 3) := by decide +kernel
theorem dX5_letWatchersLook_112 : decode cX5_letWatchersLook 112 = .ok (.ifCond .ne 36, 3) := by decide +kernel
theorem dX5_letWatchersLook_115 : decode cX5_letWatchersLook 115 = .ok (.aload_n 0, 1) := by decide +kernel
theorem dX5_letWatchersLook_116 : decode cX5_letWatchersLook 116 = .ok (.getfield 12, 3) := by decide +kernel
theorem dX5_letWatchersLook_119 : decode cX5_letWatchersLook 119 = .ok (.getfield 209, 3) := by decide +kernel
theorem dX5_letWatchersLook_122 : decode cX5_letWatchersLook 122 = .ok (.iload_n 2, 1) := by decide +kernel
theorem dX5_letWatchersLook_123 : decode cX5_letWatchersLook 123 = .ok (.iaload, 1) := by decide +kernel
theorem dX5_letWatchersLook_124 : decode cX5_letWatchersLook 124 = .ok (.iload_n 1, 1) := by decide +kernel
theorem dX5_letWatchersLook_125 : decode cX5_letWatchersLook 125 = .ok (.if_icmp .ne 17, 3) := by decide +kernel
theorem dX5_letWatchersLook_128 : decode cX5_letWatchersLook 128 = .ok (.aload_n 0, 1) := by decide +kernel
theorem dX5_letWatchersLook_129 : decode cX5_letWatchersLook 129 = .ok (.getfield 57, 3) := by decide +kernel
theorem dX5_letWatchersLook_132 : decode cX5_letWatchersLook 132 = .ok (.iload_n 2, 1) := by decide +kernel
theorem dX5_letWatchersLook_133 : decode cX5_letWatchersLook 133 = .ok (.baload, 1) := by decide +kernel
theorem dX5_letWatchersLook_134 : decode cX5_letWatchersLook 134 = .ok (.ifCond .ne 8, 3) := by decide +kernel
theorem dX5_letWatchersLook_137 : decode cX5_letWatchersLook 137 = .ok (.aload_n 0, 1) := by decide +kernel
theorem dX5_letWatchersLook_138 : decode cX5_letWatchersLook 138 = .ok (.iload_n 2, 1) := by decide +kernel
theorem dX5_letWatchersLook_139 : decode cX5_letWatchersLook 139 = .ok (.invokevirtual 212, 3) := by decide +kernel
theorem dX5_letWatchersLook_142 : decode cX5_letWatchersLook 142 = .ok (.iinc 2 1, 3) := by decide +kernel
theorem dX5_letWatchersLook_145 : decode cX5_letWatchersLook 145 = .ok (.goto (-48), 3) := by decide +kernel
theorem dX5_letWatchersLook_148 : decode cX5_letWatchersLook 148 = .ok (.iinc 1 (-1), 3) := by decide +kernel
theorem dX5_letWatchersLook_151 : decode cX5_letWatchersLook 151 = .ok (.goto (-141), 3) := by decide +kernel
theorem dX5_letWatchersLook_154 : decode cX5_letWatchersLook 154 = .ok (.return_, 1) := by decide +kernel
theorem dX5_missesUnder_0 : decode cX5_missesUnder 0 = .ok (.aload_n 0, 1) := by decide +kernel
theorem dX5_missesUnder_1 : decode cX5_missesUnder 1 = .ok (.getfield 12, 3) := by decide +kernel
theorem dX5_missesUnder_4 : decode cX5_missesUnder 4 = .ok (.getfield 139, 3) := by decide +kernel
theorem dX5_missesUnder_7 : decode cX5_missesUnder 7 = .ok (.iload_n 2, 1) := by decide +kernel
theorem dX5_missesUnder_8 : decode cX5_missesUnder 8 = .ok (.aaload, 1) := by decide +kernel
theorem dX5_missesUnder_9 : decode cX5_missesUnder 9 = .ok (.astore_n 3, 1) := by decide +kernel
theorem dX5_missesUnder_10 : decode cX5_missesUnder 10 = .ok (.aload_n 0, 1) := by decide +kernel
theorem dX5_missesUnder_11 : decode cX5_missesUnder 11 = .ok (.getfield 20, 3) := by decide +kernel
theorem dX5_missesUnder_14 : decode cX5_missesUnder 14 = .ok (.iload_n 2, 1) := by decide +kernel
theorem dX5_missesUnder_15 : decode cX5_missesUnder 15 = .ok (.aaload, 1) := by decide +kernel
theorem dX5_missesUnder_16 : decode cX5_missesUnder 16 = .ok (.astore 4, 2) := by decide +kernel
theorem dX5_missesUnder_18 : decode cX5_missesUnder 18 = .ok (.aload_n 3, 1) := by decide +kernel
theorem dX5_missesUnder_19 : decode cX5_missesUnder 19 = .ok (.iconst 0, 1) := by decide +kernel
theorem dX5_missesUnder_20 : decode cX5_missesUnder 20 = .ok (.iaload, 1) := by decide +kernel
theorem dX5_missesUnder_21 : decode cX5_missesUnder 21 = .ok (.iload_n 1, 1) := by decide +kernel
theorem dX5_missesUnder_22 : decode cX5_missesUnder 22 = .ok (.if_icmp .ne 51, 3) := by decide +kernel
theorem dX5_missesUnder_25 : decode cX5_missesUnder 25 = .ok (.aload 4, 2) := by decide +kernel
theorem dX5_missesUnder_27 : decode cX5_missesUnder 27 = .ok (.getfield 136, 3) := by decide +kernel
theorem dX5_missesUnder_30 : decode cX5_missesUnder 30 = .ok (.aload_n 0, 1) := by decide +kernel
theorem dX5_missesUnder_31 : decode cX5_missesUnder 31 = .ok (.getfield 61, 3) := by decide +kernel
theorem dX5_missesUnder_34 : decode cX5_missesUnder 34 = .ok (.aload_n 0, 1) := by decide +kernel
theorem dX5_missesUnder_35 : decode cX5_missesUnder 35 = .ok (.getfield 12, 3) := by decide +kernel
theorem dX5_missesUnder_38 : decode cX5_missesUnder 38 = .ok (.getfield 111, 3) := by decide +kernel
theorem dX5_missesUnder_41 : decode cX5_missesUnder 41 = .ok (.isub, 1) := by decide +kernel
theorem dX5_missesUnder_42 : decode cX5_missesUnder 42 = .ok (.iconst 1, 1) := by decide +kernel
theorem dX5_missesUnder_43 : decode cX5_missesUnder 43 = .ok (.iadd, 1) := by decide +kernel
theorem dX5_missesUnder_44 : decode cX5_missesUnder 44 = .ok (.if_icmp .gt 29, 3) := by decide +kernel
theorem dX5_missesUnder_47 : decode cX5_missesUnder 47 = .ok (.aload 4, 2) := by decide +kernel
theorem dX5_missesUnder_49 : decode cX5_missesUnder 49 = .ok (.getfield 215, 3) := by decide +kernel
theorem dX5_missesUnder_52 : decode cX5_missesUnder 52 = .ok (.aload_n 3, 1) := by decide +kernel
theorem dX5_missesUnder_53 : decode cX5_missesUnder 53 = .ok (.iconst 4, 1) := by decide +kernel
theorem dX5_missesUnder_54 : decode cX5_missesUnder 54 = .ok (.iaload, 1) := by decide +kernel
theorem dX5_missesUnder_55 : decode cX5_missesUnder 55 = .ok (.if_icmp .lt 14, 3) := by decide +kernel
theorem dX5_missesUnder_58 : decode cX5_missesUnder 58 = .ok (.aload 4, 2) := by decide +kernel
theorem dX5_missesUnder_60 : decode cX5_missesUnder 60 = .ok (.getfield 215, 3) := by decide +kernel
theorem dX5_missesUnder_63 : decode cX5_missesUnder 63 = .ok (.aload_n 3, 1) := by decide +kernel
theorem dX5_missesUnder_64 : decode cX5_missesUnder 64 = .ok (.iconst 5, 1) := by decide +kernel
theorem dX5_missesUnder_65 : decode cX5_missesUnder 65 = .ok (.iaload, 1) := by decide +kernel
theorem dX5_missesUnder_66 : decode cX5_missesUnder 66 = .ok (.if_icmp .le 7, 3) := by decide +kernel
theorem dX5_missesUnder_69 : decode cX5_missesUnder 69 = .ok (.iconst 1, 1) := by decide +kernel
theorem dX5_missesUnder_70 : decode cX5_missesUnder 70 = .ok (.goto 4, 3) := by decide +kernel
theorem dX5_missesUnder_73 : decode cX5_missesUnder 73 = .ok (.iconst 0, 1) := by decide +kernel
theorem dX5_missesUnder_74 : decode cX5_missesUnder 74 = .ok (.ireturn, 1) := by decide +kernel
theorem dX5_askDog_0 : decode cX5_askDog 0 = .ok (.aload_n 0, 1) := by decide +kernel
theorem dX5_askDog_1 : decode cX5_askDog 1 = .ok (.getfield 93, 3) := by decide +kernel
theorem dX5_askDog_4 : decode cX5_askDog 4 = .ok (.ifCond .ne 44, 3) := by decide +kernel
theorem dX5_askDog_7 : decode cX5_askDog 7 = .ok (.aload_n 0, 1) := by decide +kernel
theorem dX5_askDog_8 : decode cX5_askDog 8 = .ok (.getfield 12, 3) := by decide +kernel
theorem dX5_askDog_11 : decode cX5_askDog 11 = .ok (.getfield 200, 3) := by decide +kernel
theorem dX5_askDog_14 : decode cX5_askDog 14 = .ok (.ifCond .le 34, 3) := by decide +kernel
theorem dX5_askDog_17 : decode cX5_askDog 17 = .ok (.aload_n 0, 1) := by decide +kernel
theorem dX5_askDog_18 : decode cX5_askDog 18 = .ok (.getfield 57, 3) := by decide +kernel
theorem dX5_askDog_21 : decode cX5_askDog 21 = .ok (.iconst 0, 1) := by decide +kernel
theorem dX5_askDog_22 : decode cX5_askDog 22 = .ok (.baload, 1) := by decide +kernel
theorem dX5_askDog_23 : decode cX5_askDog 23 = .ok (.ifCond .ne 25, 3) := by decide +kernel
theorem dX5_askDog_26 : decode cX5_askDog 26 = .ok (.aload_n 0, 1) := by decide +kernel
theorem dX5_askDog_27 : decode cX5_askDog 27 = .ok (.getfield 27, 3) := by decide +kernel
theorem dX5_askDog_30 : decode cX5_askDog 30 = .ok (.aload_n 0, 1) := by decide +kernel
theorem dX5_askDog_31 : decode cX5_askDog 31 = .ok (.getfield 61, 3) := by decide +kernel
theorem dX5_askDog_34 : decode cX5_askDog 34 = .ok (.bipush 7, 2) := by decide +kernel
theorem dX5_askDog_36 : decode cX5_askDog 36 = .ok (.iconst 0, 1) := by decide +kernel
theorem dX5_askDog_37 : decode cX5_askDog 37 = .ok (.iconst 3, 1) := by decide +kernel
theorem dX5_askDog_38 : decode cX5_askDog 38 = .ok (.invokevirtual 218, 3) := by decide +kernel
theorem dX5_askDog_41 : decode cX5_askDog 41 = .ok (.aload_n 0, 1) := by decide +kernel
theorem dX5_askDog_42 : decode cX5_askDog 42 = .ok (.iconst 3, 1) := by decide +kernel
theorem dX5_askDog_43 : decode cX5_askDog 43 = .ok (.iconst (-1), 1) := by decide +kernel
theorem dX5_askDog_44 : decode cX5_askDog 44 = .ok (.iconst 0, 1) := by decide +kernel
theorem dX5_askDog_45 : decode cX5_askDog 45 = .ok (.invokevirtual 222, 3) := by decide +kernel
theorem dX5_askDog_48 : decode cX5_askDog 48 = .ok (.return_, 1) := by decide +kernel
theorem dX5_endCycle_0 : decode cX5_endCycle 0 = .ok (.iconst 0, 1) := by decide +kernel
theorem dX5_endCycle_1 : decode cX5_endCycle 1 = .ok (.istore_n 1, 1) := by decide +kernel
theorem dX5_endCycle_2 : decode cX5_endCycle 2 = .ok (.iload_n 1, 1) := by decide +kernel
theorem dX5_endCycle_3 : decode cX5_endCycle 3 = .ok (.aload_n 0, 1) := by decide +kernel
theorem dX5_endCycle_4 : decode cX5_endCycle 4 = .ok (.getfield 12, 3) := by decide +kernel
theorem dX5_endCycle_7 : decode cX5_endCycle 7 = .ok (.getfield 127, 3) := by decide +kernel
theorem dX5_endCycle_10 : decode cX5_endCycle 10 = .ok (.if_icmp .ge 25, 3) := by decide +kernel
theorem dX5_endCycle_13 : decode cX5_endCycle 13 = .ok (.aload_n 0, 1) := by decide +kernel
theorem dX5_endCycle_14 : decode cX5_endCycle 14 = .ok (.getfield 93, 3) := by decide +kernel
theorem dX5_endCycle_17 : decode cX5_endCycle 17 = .ok (.ifCond .ne 18, 3) := by decide +kernel
theorem dX5_endCycle_20 : decode cX5_endCycle 20 = .ok (.aload_n 0, 1) := by decide +kernel
theorem dX5_endCycle_21 : decode cX5_endCycle 21 = .ok (.getfield 20, 3) := by decide +kernel
theorem dX5_endCycle_24 : decode cX5_endCycle 24 = .ok (.iload_n 1, 1) := by decide +kernel
theorem dX5_endCycle_25 : decode cX5_endCycle 25 = .ok (.aaload, 1) := by decide +kernel
theorem dX5_endCycle_26 : decode cX5_endCycle 26 = .ok (.invokevirtual 225, 3) := by decide +kernel
theorem dX5_endCycle_29 : decode cX5_endCycle 29 = .ok (.iinc 1 1, 3) := by decide +kernel
theorem dX5_endCycle_32 : decode cX5_endCycle 32 = .ok (.goto (-30), 3) := by decide +kernel
theorem dX5_endCycle_35 : decode cX5_endCycle 35 = .ok (.return_, 1) := by decide +kernel
theorem dX5_failTask_0 : decode cX5_failTask 0 = .ok (.aload_n 0, 1) := by decide +kernel
theorem dX5_failTask_1 : decode cX5_failTask 1 = .ok (.getfield 20, 3) := by decide +kernel
theorem dX5_failTask_4 : decode cX5_failTask 4 = .ok (.iload_n 1, 1) := by decide +kernel
theorem dX5_failTask_5 : decode cX5_failTask 5 = .ok (.aaload, 1) := by decide +kernel
theorem dX5_failTask_6 : decode cX5_failTask 6 = .ok (.astore_n 3, 1) := by decide +kernel
theorem dX5_failTask_7 : decode cX5_failTask 7 = .ok (.aload_n 3, 1) := by decide +kernel
theorem dX5_failTask_8 : decode cX5_failTask 8 = .ok (.invokevirtual 226, 3) := by decide +kernel
theorem dX5_failTask_11 : decode cX5_failTask 11 = .ok (.aload_n 3, 1) := by decide +kernel
theorem dX5_failTask_12 : decode cX5_failTask 12 = .ok (.getfield 229, 3) := by decide +kernel
theorem dX5_failTask_15 : decode cX5_failTask 15 = .ok (.iconst 1, 1) := by decide +kernel
theorem dX5_failTask_16 : decode cX5_failTask 16 = .ok (.isub, 1) := by decide +kernel
theorem dX5_failTask_17 : decode cX5_failTask 17 = .ok (.istore 4, 2) := by decide +kernel
theorem dX5_failTask_19 : decode cX5_failTask 19 = .ok (.aload_n 3, 1) := by decide +kernel
theorem dX5_failTask_20 : decode cX5_failTask 20 = .ok (.getfield 232, 3) := by decide +kernel
theorem dX5_failTask_23 : decode cX5_failTask 23 = .ok (.aload_n 0, 1) := by decide +kernel
theorem dX5_failTask_24 : decode cX5_failTask 24 = .ok (.getfield 12, 3) := by decide +kernel
theorem dX5_failTask_27 : decode cX5_failTask 27 = .ok (.getfield 236, 3) := by decide +kernel
theorem dX5_failTask_30 : decode cX5_failTask 30 = .ok (.i2f, 1) := by decide +kernel
theorem dX5_failTask_31 : decode cX5_failTask 31 = .ok (.ldc 239, 2) := by decide +kernel
theorem dX5_failTask_33 : decode cX5_failTask 33 = .ok (.fdiv, 1) := by decide +kernel
theorem dX5_failTask_34 : decode cX5_failTask 34 = .ok (.fcmp .g, 1) := by decide +kernel
theorem dX5_failTask_35 : decode cX5_failTask 35 = .ok (.ifCond .ge 6, 3) := by decide +kernel
theorem dX5_failTask_38 : decode cX5_failTask 38 = .ok (.iinc 4 1, 3) := by decide +kernel
theorem dX5_failTask_41 : decode cX5_failTask 41 = .ok (.iload 4, 2) := by decide +kernel
theorem dX5_failTask_43 : decode cX5_failTask 43 = .ok (.iconst 3, 1) := by decide +kernel
theorem dX5_failTask_44 : decode cX5_failTask 44 = .ok (.invokestatic 240, 3) := by decide +kernel
theorem dX5_failTask_47 : decode cX5_failTask 47 = .ok (.istore 4, 2) := by decide +kernel
theorem dX5_failTask_49 : decode cX5_failTask 49 = .ok (.aload_n 0, 1) := by decide +kernel
theorem dX5_failTask_50 : decode cX5_failTask 50 = .ok (.getfield 27, 3) := by decide +kernel
theorem dX5_failTask_53 : decode cX5_failTask 53 = .ok (.aload_n 0, 1) := by decide +kernel
theorem dX5_failTask_54 : decode cX5_failTask 54 = .ok (.getfield 61, 3) := by decide +kernel
theorem dX5_failTask_57 : decode cX5_failTask 57 = .ok (.iload_n 2, 1) := by decide +kernel
theorem dX5_failTask_58 : decode cX5_failTask 58 = .ok (.iload_n 1, 1) := by decide +kernel
theorem dX5_failTask_59 : decode cX5_failTask 59 = .ok (.iload 4, 2) := by decide +kernel
theorem dX5_failTask_61 : decode cX5_failTask 61 = .ok (.invokevirtual 218, 3) := by decide +kernel
theorem dX5_failTask_64 : decode cX5_failTask 64 = .ok (.aload_n 0, 1) := by decide +kernel
theorem dX5_failTask_65 : decode cX5_failTask 65 = .ok (.iload 4, 2) := by decide +kernel
theorem dX5_failTask_67 : decode cX5_failTask 67 = .ok (.iload_n 1, 1) := by decide +kernel
theorem dX5_failTask_68 : decode cX5_failTask 68 = .ok (.aload_n 0, 1) := by decide +kernel
theorem dX5_failTask_69 : decode cX5_failTask 69 = .ok (.getfield 12, 3) := by decide +kernel
theorem dX5_failTask_72 : decode cX5_failTask 72 = .ok (.getfield 139, 3) := by decide +kernel
theorem dX5_failTask_75 : decode cX5_failTask 75 = .ok (.iload_n 1, 1) := by decide +kernel
theorem dX5_failTask_76 : decode cX5_failTask 76 = .ok (.aaload, 1) := by decide +kernel
theorem dX5_failTask_77 : decode cX5_failTask 77 = .ok (.iconst 0, 1) := by decide +kernel
theorem dX5_failTask_78 : decode cX5_failTask 78 = .ok (.iaload, 1) := by decide +kernel
theorem dX5_failTask_79 : decode cX5_failTask 79 = .ok (.invokevirtual 222, 3) := by decide +kernel
theorem dX5_failTask_82 : decode cX5_failTask 82 = .ok (.return_, 1) := by decide +kernel
theorem dX5_failWatcher_0 : decode cX5_failWatcher 0 = .ok (.aload_n 0, 1) := by decide +kernel
theorem dX5_failWatcher_1 : decode cX5_failWatcher 1 = .ok (.getfield 53, 3) := by decide +kernel
theorem dX5_failWatcher_4 : decode cX5_failWatcher 4 = .ok (.iload_n 1, 1) := by decide +kernel
theorem dX5_failWatcher_5 : decode cX5_failWatcher 5 = .ok (.baload, 1) := by decide +kernel
theorem dX5_failWatcher_6 : decode cX5_failWatcher 6 = .ok (.ifCond .eq 7, 3) := by decide +kernel
theorem dX5_failWatcher_9 : decode cX5_failWatcher 9 = .ok (.iconst 3, 1) := by decide +kernel
theorem dX5_failWatcher_10 : decode cX5_failWatcher 10 = .ok (.goto 4, 3) := by decide +kernel
theorem dX5_failWatcher_13 : decode cX5_failWatcher 13 = .ok (.iconst 2, 1) := by decide +kernel
theorem dX5_failWatcher_14 : decode cX5_failWatcher 14 = .ok (.istore_n 2, 1) := by decide +kernel
theorem dX5_failWatcher_15 : decode cX5_failWatcher 15 = .ok (.aload_n 0, 1) := by decide +kernel
theorem dX5_failWatcher_16 : decode cX5_failWatcher 16 = .ok (.getfield 53, 3) := by decide +kernel
theorem dX5_failWatcher_19 : decode cX5_failWatcher 19 = .ok (.iload_n 1, 1) := by decide +kernel
theorem dX5_failWatcher_20 : decode cX5_failWatcher 20 = .ok (.iconst 1, 1) := by decide +kernel
theorem dX5_failWatcher_21 : decode cX5_failWatcher 21 = .ok (.bastore, 1) := by decide +kernel
theorem dX5_failWatcher_22 : decode cX5_failWatcher 22 = .ok (.aload_n 0, 1) := by decide +kernel
theorem dX5_failWatcher_23 : decode cX5_failWatcher 23 = .ok (.getfield 27, 3) := by decide +kernel
theorem dX5_failWatcher_26 : decode cX5_failWatcher 26 = .ok (.aload_n 0, 1) := by decide +kernel
theorem dX5_failWatcher_27 : decode cX5_failWatcher 27 = .ok (.getfield 61, 3) := by decide +kernel
theorem dX5_failWatcher_30 : decode cX5_failWatcher 30 = .ok (.bipush 6, 2) := by decide +kernel
theorem dX5_failWatcher_32 : decode cX5_failWatcher 32 = .ok (.iload_n 1, 1) := by decide +kernel
theorem dX5_failWatcher_33 : decode cX5_failWatcher 33 = .ok (.iload_n 2, 1) := by decide +kernel
theorem dX5_failWatcher_34 : decode cX5_failWatcher 34 = .ok (.invokevirtual 218, 3) := by decide +kernel
theorem dX5_failWatcher_37 : decode cX5_failWatcher 37 = .ok (.aload_n 0, 1) := by decide +kernel
theorem dX5_failWatcher_38 : decode cX5_failWatcher 38 = .ok (.iload_n 2, 1) := by decide +kernel
theorem dX5_failWatcher_39 : decode cX5_failWatcher 39 = .ok (.iconst (-1), 1) := by decide +kernel
theorem dX5_failWatcher_40 : decode cX5_failWatcher 40 = .ok (.iload_n 1, 1) := by decide +kernel
theorem dX5_failWatcher_41 : decode cX5_failWatcher 41 = .ok (.invokevirtual 222, 3) := by decide +kernel
theorem dX5_failWatcher_44 : decode cX5_failWatcher 44 = .ok (.return_, 1) := by decide +kernel
theorem dX5_climb_0 : decode cX5_climb 0 = .ok (.iconst 0, 1) := by decide +kernel
theorem dX5_climb_1 : decode cX5_climb 1 = .ok (.istore 4, 2) := by decide +kernel
theorem dX5_climb_3 : decode cX5_climb 3 = .ok (.iload 4, 2) := by decide +kernel
theorem dX5_climb_5 : decode cX5_climb 5 = .ok (.aload_n 0, 1) := by decide +kernel
theorem dX5_climb_6 : decode cX5_climb 6 = .ok (.getfield 12, 3) := by decide +kernel
theorem dX5_climb_9 : decode cX5_climb 9 = .ok (.getfield 127, 3) := by decide +kernel
theorem dX5_climb_12 : decode cX5_climb 12 = .ok (.if_icmp .ge 103, 3) := by decide +kernel
theorem dX5_climb_15 : decode cX5_climb 15 = .ok (.aload_n 0, 1) := by decide +kernel
theorem dX5_climb_16 : decode cX5_climb 16 = .ok (.getfield 12, 3) := by decide +kernel
theorem dX5_climb_19 : decode cX5_climb 19 = .ok (.getfield 139, 3) := by decide +kernel
theorem dX5_climb_22 : decode cX5_climb 22 = .ok (.iload 4, 2) := by decide +kernel
theorem dX5_climb_24 : decode cX5_climb 24 = .ok (.aaload, 1) := by decide +kernel
theorem dX5_climb_25 : decode cX5_climb 25 = .ok (.iconst 0, 1) := by decide +kernel
theorem dX5_climb_26 : decode cX5_climb 26 = .ok (.iaload, 1) := by decide +kernel
theorem dX5_climb_27 : decode cX5_climb 27 = .ok (.istore 5, 2) := by decide +kernel
theorem dX5_climb_29 : decode cX5_climb 29 = .ok (.iload_n 1, 1) := by decide +kernel
theorem dX5_climb_30 : decode cX5_climb 30 = .ok (.iconst 3, 1) := by decide +kernel
theorem dX5_climb_31 : decode cX5_climb 31 = .ok (.if_icmp .eq 38, 3) := by decide +kernel
theorem dX5_climb_34 : decode cX5_climb 34 = .ok (.iload_n 1, 1) := by decide +kernel
theorem dX5_climb_35 : decode cX5_climb 35 = .ok (.iconst 2, 1) := by decide +kernel
theorem dX5_climb_36 : decode cX5_climb 36 = .ok (.if_icmp .ne 16, 3) := by decide +kernel
theorem dX5_climb_39 : decode cX5_climb 39 = .ok (.aload_n 0, 1) := by decide +kernel
theorem dX5_climb_40 : decode cX5_climb 40 = .ok (.getfield 12, 3) := by decide +kernel
theorem dX5_climb_43 : decode cX5_climb 43 = .ok (.iload 5, 2) := by decide +kernel
theorem dX5_climb_45 : decode cX5_climb 45 = .ok (.iload_n 3, 1) := by decide +kernel
theorem dX5_climb_46 : decode cX5_climb 46 = .ok (.invokevirtual 246, 3) := by decide +kernel
theorem dX5_climb_49 : decode cX5_climb 49 = .ok (.ifCond .ne 20, 3) := by decide +kernel
theorem dX5_climb_52 : decode cX5_climb 52 = .ok (.iload_n 1, 1) := by decide +kernel
theorem dX5_climb_53 : decode cX5_climb 53 = .ok (.iconst 1, 1) := by decide +kernel
theorem dX5_climb_54 : decode cX5_climb 54 = .ok (.if_icmp .ne 9, 3) := by decide +kernel
theorem dX5_climb_57 : decode cX5_climb 57 = .ok (.iload 5, 2) := by decide +kernel
theorem dX5_climb_59 : decode cX5_climb 59 = .ok (.iload_n 3, 1) := by decide +kernel
theorem dX5_climb_60 : decode cX5_climb 60 = .ok (.if_icmp .eq 9, 3) := by decide +kernel
theorem dX5_climb_63 : decode cX5_climb 63 = .ok (.iload 4, 2) := by decide +kernel
theorem dX5_climb_65 : decode cX5_climb 65 = .ok (.iload_n 2, 1) := by decide +kernel
theorem dX5_climb_66 : decode cX5_climb 66 = .ok (.if_icmp .ne 43, 3) := by decide +kernel
theorem dX5_climb_69 : decode cX5_climb 69 = .ok (.iconst 1, 1) := by decide +kernel
theorem dX5_climb_70 : decode cX5_climb 70 = .ok (.aload_n 0, 1) := by decide +kernel
theorem dX5_climb_71 : decode cX5_climb 71 = .ok (.getfield 12, 3) := by decide +kernel
theorem dX5_climb_74 : decode cX5_climb 74 = .ok (.getfield 139, 3) := by decide +kernel
theorem dX5_climb_77 : decode cX5_climb 77 = .ok (.iload 4, 2) := by decide +kernel
theorem dX5_climb_79 : decode cX5_climb 79 = .ok (.aaload, 1) := by decide +kernel
theorem dX5_climb_80 : decode cX5_climb 80 = .ok (.iconst 1, 1) := by decide +kernel
theorem dX5_climb_81 : decode cX5_climb 81 = .ok (.iaload, 1) := by decide +kernel
theorem dX5_climb_82 : decode cX5_climb 82 = .ok (.invokestatic 249, 3) := by decide +kernel
theorem dX5_climb_85 : decode cX5_climb 85 = .ok (.istore 6, 2) := by decide +kernel
theorem dX5_climb_87 : decode cX5_climb 87 = .ok (.aload_n 0, 1) := by decide +kernel
theorem dX5_climb_88 : decode cX5_climb 88 = .ok (.getfield 20, 3) := by decide +kernel
theorem dX5_climb_91 : decode cX5_climb 91 = .ok (.iload 4, 2) := by decide +kernel
theorem dX5_climb_93 : decode cX5_climb 93 = .ok (.aaload, 1) := by decide +kernel
theorem dX5_climb_94 : decode cX5_climb 94 = .ok (.aload_n 0, 1) := by decide +kernel
theorem dX5_climb_95 : decode cX5_climb 95 = .ok (.getfield 61, 3) := by decide +kernel
theorem dX5_climb_98 : decode cX5_climb 98 = .ok (.iload 6, 2) := by decide +kernel
theorem dX5_climb_100 : decode cX5_climb 100 = .ok (.idiv, 1) := by decide +kernel
theorem dX5_climb_101 : decode cX5_climb 101 = .ok (.iconst 1, 1) := by decide +kernel
theorem dX5_climb_102 : decode cX5_climb 102 = .ok (.iadd, 1) := by decide +kernel
theorem dX5_climb_103 : decode cX5_climb 103 = .ok (.iload 6, 2) := by decide +kernel
theorem dX5_climb_105 : decode cX5_climb 105 = .ok (.imul, 1) := by decide +kernel
theorem dX5_climb_106 : decode cX5_climb 106 = .ok (.invokevirtual 252, 3) := by decide +kernel
theorem dX5_climb_109 : decode cX5_climb 109 = .ok (.iinc 4 1, 3) := by decide +kernel
theorem dX5_climb_112 : decode cX5_climb 112 = .ok (.goto (-109), 3) := by decide +kernel
theorem dX5_climb_115 : decode cX5_climb 115 = .ok (.iconst 0, 1) := by decide +kernel
theorem dX5_climb_116 : decode cX5_climb 116 = .ok (.istore 4, 2) := by decide +kernel
theorem dX5_climb_118 : decode cX5_climb 118 = .ok (.iload 4, 2) := by decide +kernel
theorem dX5_climb_120 : decode cX5_climb 120 = .ok (.aload_n 0, 1) := by decide +kernel
theorem dX5_climb_121 : decode cX5_climb 121 = .ok (.getfield 12, 3) := by decide +kernel
theorem dX5_climb_124 : decode cX5_climb 124 = .ok (.getfield 200, 3) := by decide +kernel
theorem dX5_climb_127 : decode cX5_climb 127 = .ok (.if_icmp .ge 43, 3) := by decide +kernel
theorem dX5_climb_130 : decode cX5_climb 130 = .ok (.iload_n 1, 1) := by decide +kernel
theorem dX5_climb_131 : decode cX5_climb 131 = .ok (.iconst 3, 1) := by decide +kernel
theorem dX5_climb_132 : decode cX5_climb 132 = .ok (.if_icmp .eq 21, 3) := by decide +kernel
theorem dX5_climb_135 : decode cX5_climb 135 = .ok (.iload_n 1, 1) := by decide +kernel
theorem dX5_climb_136 : decode cX5_climb 136 = .ok (.iconst 2, 1) := by decide +kernel
theorem dX5_climb_137 : decode cX5_climb 137 = .ok (.if_icmp .ne 27, 3) := by decide +kernel
theorem dX5_climb_140 : decode cX5_climb 140 = .ok (.aload_n 0, 1) := by decide +kernel
theorem dX5_climb_141 : decode cX5_climb 141 = .ok (.getfield 12, 3) := by decide +kernel
theorem dX5_climb_144 : decode cX5_climb 144 = .ok (.iload 4, 2) := by decide +kernel
theorem dX5_climb_146 : decode cX5_climb 146 = .ok (.iload_n 3, 1) := by decide +kernel
theorem dX5_climb_147 : decode cX5_climb 147 = .ok (.invokevirtual 246, 3) := by decide +kernel
theorem dX5_climb_150 : decode cX5_climb 150 = .ok (.ifCond .eq 14, 3) := by decide +kernel
theorem dX5_climb_153 : decode cX5_climb 153 = .ok (.aload_n 0, 1) := by decide +kernel
theorem dX5_climb_154 : decode cX5_climb 154 = .ok (.getfield 50, 3) := by decide +kernel
theorem dX5_climb_157 : decode cX5_climb 157 = .ok (.iload 4, 2) := by decide +kernel
theorem dX5_climb_159 : decode cX5_climb 159 = .ok (.aload_n 0, 1) := by decide +kernel
theorem dX5_climb_160 : decode cX5_climb 160 = .ok (.getfield 61, 3) := by decide +kernel
theorem dX5_climb_163 : decode cX5_climb 163 = .ok (.iastore, 1) := by decide +kernel
theorem dX5_climb_164 : decode cX5_climb 164 = .ok (.iinc 4 1, 3) := by decide +kernel
theorem dX5_climb_167 : decode cX5_climb 167 = .ok (.goto (-49), 3) := by decide +kernel
theorem dX5_climb_170 : decode cX5_climb 170 = .ok (.iload_n 1, 1) := by decide +kernel
theorem dX5_climb_171 : decode cX5_climb 171 = .ok (.iconst 3, 1) := by decide +kernel
theorem dX5_climb_172 : decode cX5_climb 172 = .ok (.if_icmp .ne 7, 3) := by decide +kernel
theorem dX5_climb_175 : decode cX5_climb 175 = .ok (.aload_n 0, 1) := by decide +kernel
theorem dX5_climb_176 : decode cX5_climb 176 = .ok (.invokevirtual 255, 3) := by decide +kernel
theorem dX5_climb_179 : decode cX5_climb 179 = .ok (.return_, 1) := by decide +kernel
theorem dX5_endTickByReset_0 : decode cX5_endTickByReset 0 = .ok (.aload_n 0, 1) := by decide +kernel
theorem dX5_endTickByReset_1 : decode cX5_endTickByReset 1 = .ok (.iconst 1, 1) := by decide +kernel
theorem dX5_endTickByReset_2 : decode cX5_endTickByReset 2 = .ok (.putfield 93, 3) := by decide +kernel
theorem dX5_endTickByReset_5 : decode cX5_endTickByReset 5 = .ok (.aload_n 0, 1) := by decide +kernel
theorem dX5_endTickByReset_6 : decode cX5_endTickByReset 6 = .ok (.dup, 1) := by decide +kernel
theorem dX5_endTickByReset_7 : decode cX5_endTickByReset 7 = .ok (.getfield 67, 3) := by decide +kernel
theorem dX5_endTickByReset_10 : decode cX5_endTickByReset 10 = .ok (.iconst 1, 1) := by decide +kernel
theorem dX5_endTickByReset_11 : decode cX5_endTickByReset 11 = .ok (.iadd, 1) := by decide +kernel
theorem dX5_endTickByReset_12 : decode cX5_endTickByReset 12 = .ok (.putfield 67, 3) := by decide +kernel
theorem dX5_endTickByReset_15 : decode cX5_endTickByReset 15 = .ok (.aload_n 0, 1) := by decide +kernel
theorem dX5_endTickByReset_16 : decode cX5_endTickByReset 16 = .ok (.getfield 67, 3) := by decide +kernel
theorem dX5_endTickByReset_19 : decode cX5_endTickByReset 19 = .ok (.iconst 3, 1) := by decide +kernel
theorem dX5_endTickByReset_20 : decode cX5_endTickByReset 20 = .ok (.if_icmp .ne 11, 3) := by decide +kernel
theorem dX5_endTickByReset_23 : decode cX5_endTickByReset 23 = .ok (.aload_n 0, 1) := by decide +kernel
theorem dX5_endTickByReset_24 : decode cX5_endTickByReset 24 = .ok (.aload_n 0, 1) := by decide +kernel
theorem dX5_endTickByReset_25 : decode cX5_endTickByReset 25 = .ok (.getfield 61, 3) := by decide +kernel
theorem dX5_endTickByReset_28 : decode cX5_endTickByReset 28 = .ok (.putfield 35, 3) := by decide +kernel
theorem dX5_endTickByReset_31 : decode cX5_endTickByReset 31 = .ok (.return_, 1) := by decide +kernel
theorem dX5_isAsleep_0 : decode cX5_isAsleep 0 = .ok (.iconst 0, 1) := by decide +kernel
theorem dX5_isAsleep_1 : decode cX5_isAsleep 1 = .ok (.istore_n 2, 1) := by decide +kernel
theorem dX5_isAsleep_2 : decode cX5_isAsleep 2 = .ok (.iload_n 2, 1) := by decide +kernel
theorem dX5_isAsleep_3 : decode cX5_isAsleep 3 = .ok (.aload_n 0, 1) := by decide +kernel
theorem dX5_isAsleep_4 : decode cX5_isAsleep 4 = .ok (.getfield 12, 3) := by decide +kernel
theorem dX5_isAsleep_7 : decode cX5_isAsleep 7 = .ok (.getfield 258, 3) := by decide +kernel
theorem dX5_isAsleep_10 : decode cX5_isAsleep 10 = .ok (.aload_n 0, 1) := by decide +kernel
theorem dX5_isAsleep_11 : decode cX5_isAsleep 11 = .ok (.getfield 12, 3) := by decide +kernel
theorem dX5_isAsleep_14 : decode cX5_isAsleep 14 = .ok (.getfield 261, 3) := by decide +kernel
theorem dX5_isAsleep_17 : decode cX5_isAsleep 17 = .ok (.iadd, 1) := by decide +kernel
theorem dX5_isAsleep_18 : decode cX5_isAsleep 18 = .ok (.if_icmp .ge 57, 3) := by decide +kernel
theorem dX5_isAsleep_21 : decode cX5_isAsleep 21 = .ok (.aload_n 0, 1) := by decide +kernel
theorem dX5_isAsleep_22 : decode cX5_isAsleep 22 = .ok (.getfield 12, 3) := by decide +kernel
theorem dX5_isAsleep_25 : decode cX5_isAsleep 25 = .ok (.getfield 264, 3) := by decide +kernel
theorem dX5_isAsleep_28 : decode cX5_isAsleep 28 = .ok (.iload_n 2, 1) := by decide +kernel
theorem dX5_isAsleep_29 : decode cX5_isAsleep 29 = .ok (.aaload, 1) := by decide +kernel
theorem dX5_isAsleep_30 : decode cX5_isAsleep 30 = .ok (.astore_n 3, 1) := by decide +kernel
theorem dX5_isAsleep_31 : decode cX5_isAsleep 31 = .ok (.aload_n 3, 1) := by decide +kernel
theorem dX5_isAsleep_32 : decode cX5_isAsleep 32 = .ok (.iconst 0, 1) := by decide +kernel
theorem dX5_isAsleep_33 : decode cX5_isAsleep 33 = .ok (.iaload, 1) := by decide +kernel
theorem dX5_isAsleep_34 : decode cX5_isAsleep 34 = .ok (.iconst 5, 1) := by decide +kernel
theorem dX5_isAsleep_35 : decode cX5_isAsleep 35 = .ok (.if_icmp .ne 34, 3) := by decide +kernel
theorem dX5_isAsleep_38 : decode cX5_isAsleep 38 = .ok (.aload_n 3, 1) := by decide +kernel
theorem dX5_isAsleep_39 : decode cX5_isAsleep 39 = .ok (.iconst 1, 1) := by decide +kernel
theorem dX5_isAsleep_40 : decode cX5_isAsleep 40 = .ok (.iaload, 1) := by decide +kernel
theorem dX5_isAsleep_41 : decode cX5_isAsleep 41 = .ok (.iload_n 1, 1) := by decide +kernel
theorem dX5_isAsleep_42 : decode cX5_isAsleep 42 = .ok (.if_icmp .ne 27, 3) := by decide +kernel
theorem dX5_isAsleep_45 : decode cX5_isAsleep 45 = .ok (.aload_n 3, 1) := by decide +kernel
theorem dX5_isAsleep_46 : decode cX5_isAsleep 46 = .ok (.iconst 2, 1) := by decide +kernel
theorem dX5_isAsleep_47 : decode cX5_isAsleep 47 = .ok (.iaload, 1) := by decide +kernel
theorem dX5_isAsleep_48 : decode cX5_isAsleep 48 = .ok (.aload_n 0, 1) := by decide +kernel
theorem dX5_isAsleep_49 : decode cX5_isAsleep 49 = .ok (.getfield 61, 3) := by decide +kernel
theorem dX5_isAsleep_52 : decode cX5_isAsleep 52 = .ok (.if_icmp .gt 17, 3) := by decide +kernel
theorem dX5_isAsleep_55 : decode cX5_isAsleep 55 = .ok (.aload_n 3, 1) := by decide +kernel
theorem dX5_isAsleep_56 : decode cX5_isAsleep 56 = .ok (.iconst 2, 1) := by decide +kernel
theorem dX5_isAsleep_57 : decode cX5_isAsleep 57 = .ok (.iaload, 1) := by decide +kernel
theorem dX5_isAsleep_58 : decode cX5_isAsleep 58 = .ok (.aload_n 0, 1) := by decide +kernel
theorem dX5_isAsleep_59 : decode cX5_isAsleep 59 = .ok (.getfield 50, 3) := by decide +kernel
theorem dX5_isAsleep_62 : decode cX5_isAsleep 62 = .ok (.iload_n 1, 1) := by decide +kernel
theorem dX5_isAsleep_63 : decode cX5_isAsleep 63 = .ok (.iaload, 1) := by decide +kernel
theorem dX5_isAsleep_64 : decode cX5_isAsleep 64 = .ok (.if_icmp .le 5, 3) := by decide +kernel
theorem dX5_isAsleep_67 : decode cX5_isAsleep 67 = .ok (.iconst 1, 1) := by decide +kernel
theorem dX5_isAsleep_68 : decode cX5_isAsleep 68 = .ok (.ireturn, 1) := by decide +kernel
theorem dX5_isAsleep_69 : decode cX5_isAsleep 69 = .ok (.iinc 2 1, 3) := by decide +kernel
theorem dX5_isAsleep_72 : decode cX5_isAsleep 72 = .ok (.goto (-70), 3) := by decide +kernel
theorem dX5_isAsleep_75 : decode cX5_isAsleep 75 = .ok (.iconst 0, 1) := by decide +kernel
theorem dX5_isAsleep_76 : decode cX5_isAsleep 76 = .ok (.ireturn, 1) := by decide +kernel
theorem dX5_gapOfKick_0 : decode cX5_gapOfKick 0 = .ok (.iload_n 2, 1) := by decide +kernel
theorem dX5_gapOfKick_1 : decode cX5_gapOfKick 1 = .ok (.istore_n 3, 1) := by decide +kernel
theorem dX5_gapOfKick_2 : decode cX5_gapOfKick 2 = .ok (.iconst 0, 1) := by decide +kernel
theorem dX5_gapOfKick_3 : decode cX5_gapOfKick 3 = .ok (.istore 4, 2) := by decide +kernel
theorem dX5_gapOfKick_5 : decode cX5_gapOfKick 5 = .ok (.iload 4, 2) := by decide +kernel
theorem dX5_gapOfKick_7 : decode cX5_gapOfKick 7 = .ok (.aload_n 0, 1) := by decide +kernel
theorem dX5_gapOfKick_8 : decode cX5_gapOfKick 8 = .ok (.getfield 70, 3) := by decide +kernel
theorem dX5_gapOfKick_11 : decode cX5_gapOfKick 11 = .ok (.if_icmp .ge 35, 3) := by decide +kernel
theorem dX5_gapOfKick_14 : decode cX5_gapOfKick 14 = .ok (.aload_n 0, 1) := by decide +kernel
theorem dX5_gapOfKick_15 : decode cX5_gapOfKick 15 = .ok (.getfield 43, 3) := by decide +kernel
theorem dX5_gapOfKick_18 : decode cX5_gapOfKick 18 = .ok (.iload 4, 2) := by decide +kernel
theorem dX5_gapOfKick_20 : decode cX5_gapOfKick 20 = .ok (.iaload, 1) := by decide +kernel
theorem dX5_gapOfKick_21 : decode cX5_gapOfKick 21 = .ok (.iload_n 1, 1) := by decide +kernel
theorem dX5_gapOfKick_22 : decode cX5_gapOfKick 22 = .ok (.if_icmp .ne 18, 3) := by decide +kernel
theorem dX5_gapOfKick_25 : decode cX5_gapOfKick 25 = .ok (.iload_n 3, 1) := by decide +kernel
theorem dX5_gapOfKick_26 : decode cX5_gapOfKick 26 = .ok (.ifCond .ne 11, 3) := by decide +kernel
theorem dX5_gapOfKick_29 : decode cX5_gapOfKick 29 = .ok (.aload_n 0, 1) := by decide +kernel
theorem dX5_gapOfKick_30 : decode cX5_gapOfKick 30 = .ok (.getfield 47, 3) := by decide +kernel
theorem dX5_gapOfKick_33 : decode cX5_gapOfKick 33 = .ok (.iload 4, 2) := by decide +kernel
theorem dX5_gapOfKick_35 : decode cX5_gapOfKick 35 = .ok (.iaload, 1) := by decide +kernel
theorem dX5_gapOfKick_36 : decode cX5_gapOfKick 36 = .ok (.ireturn, 1) := by decide +kernel
theorem dX5_gapOfKick_37 : decode cX5_gapOfKick 37 = .ok (.iinc 3 (-1), 3) := by decide +kernel
theorem dX5_gapOfKick_40 : decode cX5_gapOfKick 40 = .ok (.iinc 4 1, 3) := by decide +kernel
theorem dX5_gapOfKick_43 : decode cX5_gapOfKick 43 = .ok (.goto (-38), 3) := by decide +kernel
theorem dX5_gapOfKick_46 : decode cX5_gapOfKick 46 = .ok (.iconst (-1), 1) := by decide +kernel
theorem dX5_gapOfKick_47 : decode cX5_gapOfKick 47 = .ok (.ireturn, 1) := by decide +kernel
theorem dX5_beginOf_0 : decode cX5_beginOf 0 = .ok (.aload_n 0, 1) := by decide +kernel
theorem dX5_beginOf_1 : decode cX5_beginOf 1 = .ok (.getfield 12, 3) := by decide +kernel
theorem dX5_beginOf_4 : decode cX5_beginOf 4 = .ok (.iload_n 1, 1) := by decide +kernel
theorem dX5_beginOf_5 : decode cX5_beginOf 5 = .ok (.invokevirtual 169, 3) := by decide +kernel
theorem dX5_beginOf_8 : decode cX5_beginOf 8 = .ok (.ifCond .eq 27, 3) := by decide +kernel
theorem dX5_beginOf_11 : decode cX5_beginOf 11 = .ok (.iload_n 2, 1) := by decide +kernel
theorem dX5_beginOf_12 : decode cX5_beginOf 12 = .ok (.invokestatic 267, 3) := by decide +kernel
theorem dX5_beginOf_15 : decode cX5_beginOf 15 = .ok (.ifCond .eq 20, 3) := by decide +kernel
theorem dX5_beginOf_18 : decode cX5_beginOf 18 = .ok (.iload_n 2, 1) := by decide +kernel
theorem dX5_beginOf_19 : decode cX5_beginOf 19 = .ok (.aload_n 0, 1) := by decide +kernel
theorem dX5_beginOf_20 : decode cX5_beginOf 20 = .ok (.getfield 20, 3) := by decide +kernel
theorem dX5_beginOf_23 : decode cX5_beginOf 23 = .ok (.iload_n 1, 1) := by decide +kernel
theorem dX5_beginOf_24 : decode cX5_beginOf 24 = .ok (.aaload, 1) := by decide +kernel
theorem dX5_beginOf_25 : decode cX5_beginOf 25 = .ok (.getfield 142, 3) := by decide +kernel
theorem dX5_beginOf_28 : decode cX5_beginOf 28 = .ok (.if_icmp .ge 7, 3) := by decide +kernel
theorem dX5_beginOf_31 : decode cX5_beginOf 31 = .ok (.iconst 1, 1) := by decide +kernel
theorem dX5_beginOf_32 : decode cX5_beginOf 32 = .ok (.goto 4, 3) := by decide +kernel
theorem dX5_beginOf_35 : decode cX5_beginOf 35 = .ok (.iconst 0, 1) := by decide +kernel
theorem dX5_beginOf_36 : decode cX5_beginOf 36 = .ok (.istore_n 3, 1) := by decide +kernel
theorem dX5_beginOf_37 : decode cX5_beginOf 37 = .ok (.iload_n 3, 1) := by decide +kernel
theorem dX5_beginOf_38 : decode cX5_beginOf 38 = .ok (.ifCond .eq 14, 3) := by decide +kernel
theorem dX5_beginOf_41 : decode cX5_beginOf 41 = .ok (.aload_n 0, 1) := by decide +kernel
theorem dX5_beginOf_42 : decode cX5_beginOf 42 = .ok (.getfield 40, 3) := by decide +kernel
theorem dX5_beginOf_45 : decode cX5_beginOf 45 = .ok (.iload_n 1, 1) := by decide +kernel
theorem dX5_beginOf_46 : decode cX5_beginOf 46 = .ok (.aaload, 1) := by decide +kernel
theorem dX5_beginOf_47 : decode cX5_beginOf 47 = .ok (.iload_n 2, 1) := by decide +kernel
theorem dX5_beginOf_48 : decode cX5_beginOf 48 = .ok (.iaload, 1) := by decide +kernel
theorem dX5_beginOf_49 : decode cX5_beginOf 49 = .ok (.goto 4, 3) := by decide +kernel
theorem dX5_beginOf_52 : decode cX5_beginOf 52 = .ok (.iconst (-1), 1) := by decide +kernel
theorem dX5_beginOf_53 : decode cX5_beginOf 53 = .ok (.ireturn, 1) := by decide +kernel
theorem dX5_delayOf_0 : decode cX5_delayOf 0 = .ok (.aload_n 0, 1) := by decide +kernel
theorem dX5_delayOf_1 : decode cX5_delayOf 1 = .ok (.getfield 12, 3) := by decide +kernel
theorem dX5_delayOf_4 : decode cX5_delayOf 4 = .ok (.getfield 264, 3) := by decide +kernel
theorem dX5_delayOf_7 : decode cX5_delayOf 7 = .ok (.iload_n 1, 1) := by decide +kernel
theorem dX5_delayOf_8 : decode cX5_delayOf 8 = .ok (.aaload, 1) := by decide +kernel
theorem dX5_delayOf_9 : decode cX5_delayOf 9 = .ok (.astore_n 2, 1) := by decide +kernel
theorem dX5_delayOf_10 : decode cX5_delayOf 10 = .ok (.aload_n 2, 1) := by decide +kernel
theorem dX5_delayOf_11 : decode cX5_delayOf 11 = .ok (.iconst 0, 1) := by decide +kernel
theorem dX5_delayOf_12 : decode cX5_delayOf 12 = .ok (.iaload, 1) := by decide +kernel
theorem dX5_delayOf_13 : decode cX5_delayOf 13 = .ok (.iconst 5, 1) := by decide +kernel
theorem dX5_delayOf_14 : decode cX5_delayOf 14 = .ok (.if_icmp .ne 7, 3) := by decide +kernel
theorem dX5_delayOf_17 : decode cX5_delayOf 17 = .ok (.iconst 1, 1) := by decide +kernel
theorem dX5_delayOf_18 : decode cX5_delayOf 18 = .ok (.goto 4, 3) := by decide +kernel
theorem dX5_delayOf_21 : decode cX5_delayOf 21 = .ok (.iconst 0, 1) := by decide +kernel
theorem dX5_delayOf_22 : decode cX5_delayOf 22 = .ok (.istore_n 3, 1) := by decide +kernel
theorem dX5_delayOf_23 : decode cX5_delayOf 23 = .ok (.iload_n 3, 1) := by decide +kernel
theorem dX5_delayOf_24 : decode cX5_delayOf 24 = .ok (.ifCond .eq 9, 3) := by decide +kernel
theorem dX5_delayOf_27 : decode cX5_delayOf 27 = .ok (.aload_n 2, 1) := by decide +kernel
theorem dX5_delayOf_28 : decode cX5_delayOf 28 = .ok (.iconst 2, 1) := by decide +kernel
theorem dX5_delayOf_29 : decode cX5_delayOf 29 = .ok (.iaload, 1) := by decide +kernel
theorem dX5_delayOf_30 : decode cX5_delayOf 30 = .ok (.goto 13, 3) := by decide +kernel
theorem dX5_delayOf_33 : decode cX5_delayOf 33 = .ok (.aload_n 0, 1) := by decide +kernel
theorem dX5_delayOf_34 : decode cX5_delayOf 34 = .ok (.aload_n 2, 1) := by decide +kernel
theorem dX5_delayOf_35 : decode cX5_delayOf 35 = .ok (.iconst 1, 1) := by decide +kernel
theorem dX5_delayOf_36 : decode cX5_delayOf 36 = .ok (.iaload, 1) := by decide +kernel
theorem dX5_delayOf_37 : decode cX5_delayOf 37 = .ok (.aload_n 2, 1) := by decide +kernel
theorem dX5_delayOf_38 : decode cX5_delayOf 38 = .ok (.iconst 2, 1) := by decide +kernel
theorem dX5_delayOf_39 : decode cX5_delayOf 39 = .ok (.iaload, 1) := by decide +kernel
theorem dX5_delayOf_40 : decode cX5_delayOf 40 = .ok (.invokevirtual 270, 3) := by decide +kernel
theorem dX5_delayOf_43 : decode cX5_delayOf 43 = .ok (.istore 4, 2) := by decide +kernel
theorem dX5_delayOf_45 : decode cX5_delayOf 45 = .ok (.iload 4, 2) := by decide +kernel
theorem dX5_delayOf_47 : decode cX5_delayOf 47 = .ok (.iconst (-1), 1) := by decide +kernel
theorem dX5_delayOf_48 : decode cX5_delayOf 48 = .ok (.if_icmp .ne 7, 3) := by decide +kernel
theorem dX5_delayOf_51 : decode cX5_delayOf 51 = .ok (.iconst (-1), 1) := by decide +kernel
theorem dX5_delayOf_52 : decode cX5_delayOf 52 = .ok (.goto 16, 3) := by decide +kernel
theorem dX5_delayOf_55 : decode cX5_delayOf 55 = .ok (.aload_n 0, 1) := by decide +kernel
theorem dX5_delayOf_56 : decode cX5_delayOf 56 = .ok (.getfield 27, 3) := by decide +kernel
theorem dX5_delayOf_59 : decode cX5_delayOf 59 = .ok (.iload 4, 2) := by decide +kernel
theorem dX5_delayOf_61 : decode cX5_delayOf 61 = .ok (.iload_n 3, 1) := by decide +kernel
theorem dX5_delayOf_62 : decode cX5_delayOf 62 = .ok (.aload_n 2, 1) := by decide +kernel
theorem dX5_delayOf_63 : decode cX5_delayOf 63 = .ok (.iconst 1, 1) := by decide +kernel
theorem dX5_delayOf_64 : decode cX5_delayOf 64 = .ok (.iaload, 1) := by decide +kernel
theorem dX5_delayOf_65 : decode cX5_delayOf 65 = .ok (.invokevirtual 273, 3) := by decide +kernel
theorem dX5_delayOf_68 : decode cX5_delayOf 68 = .ok (.ireturn, 1) := by decide +kernel
theorem dX5_delayOfNext_0 : decode cX5_delayOfNext 0 = .ok (.aload_n 0, 1) := by decide +kernel
theorem dX5_delayOfNext_1 : decode cX5_delayOfNext 1 = .ok (.getfield 61, 3) := by decide +kernel
theorem dX5_delayOfNext_4 : decode cX5_delayOfNext 4 = .ok (.istore_n 3, 1) := by decide +kernel
theorem dX5_delayOfNext_5 : decode cX5_delayOfNext 5 = .ok (.iload_n 3, 1) := by decide +kernel
theorem dX5_delayOfNext_6 : decode cX5_delayOfNext 6 = .ok (.aload_n 0, 1) := by decide +kernel
theorem dX5_delayOfNext_7 : decode cX5_delayOfNext 7 = .ok (.getfield 12, 3) := by decide +kernel
theorem dX5_delayOfNext_10 : decode cX5_delayOfNext 10 = .ok (.getfield 87, 3) := by decide +kernel
theorem dX5_delayOfNext_13 : decode cX5_delayOfNext 13 = .ok (.if_icmp .ge 42, 3) := by decide +kernel
theorem dX5_delayOfNext_16 : decode cX5_delayOfNext 16 = .ok (.aload_n 0, 1) := by decide +kernel
theorem dX5_delayOfNext_17 : decode cX5_delayOfNext 17 = .ok (.getfield 35, 3) := by decide +kernel
theorem dX5_delayOfNext_20 : decode cX5_delayOfNext 20 = .ok (.iconst (-1), 1) := by decide +kernel
theorem dX5_delayOfNext_21 : decode cX5_delayOfNext 21 = .ok (.if_icmp .ne 34, 3) := by decide +kernel
theorem dX5_delayOfNext_24 : decode cX5_delayOfNext 24 = .ok (.aload_n 0, 1) := by decide +kernel
theorem dX5_delayOfNext_25 : decode cX5_delayOfNext 25 = .ok (.invokevirtual 90, 3) := by decide +kernel
theorem dX5_delayOfNext_28 : decode cX5_delayOfNext 28 = .ok (.aload_n 0, 1) := by decide +kernel
theorem dX5_delayOfNext_29 : decode cX5_delayOfNext 29 = .ok (.getfield 27, 3) := by decide +kernel
theorem dX5_delayOfNext_32 : decode cX5_delayOfNext 32 = .ok (.iload_n 2, 1) := by decide +kernel
theorem dX5_delayOfNext_33 : decode cX5_delayOfNext 33 = .ok (.iconst 0, 1) := by decide +kernel
theorem dX5_delayOfNext_34 : decode cX5_delayOfNext 34 = .ok (.iload_n 1, 1) := by decide +kernel
theorem dX5_delayOfNext_35 : decode cX5_delayOfNext 35 = .ok (.invokevirtual 273, 3) := by decide +kernel
theorem dX5_delayOfNext_38 : decode cX5_delayOfNext 38 = .ok (.istore 4, 2) := by decide +kernel
theorem dX5_delayOfNext_40 : decode cX5_delayOfNext 40 = .ok (.iload 4, 2) := by decide +kernel
theorem dX5_delayOfNext_42 : decode cX5_delayOfNext 42 = .ok (.iconst (-1), 1) := by decide +kernel
theorem dX5_delayOfNext_43 : decode cX5_delayOfNext 43 = .ok (.if_icmp .eq 6, 3) := by decide +kernel
theorem dX5_delayOfNext_46 : decode cX5_delayOfNext 46 = .ok (.iload 4, 2) := by decide +kernel
theorem dX5_delayOfNext_48 : decode cX5_delayOfNext 48 = .ok (.ireturn, 1) := by decide +kernel
theorem dX5_delayOfNext_49 : decode cX5_delayOfNext 49 = .ok (.iinc 3 1, 3) := by decide +kernel
theorem dX5_delayOfNext_52 : decode cX5_delayOfNext 52 = .ok (.goto (-47), 3) := by decide +kernel
theorem dX5_delayOfNext_55 : decode cX5_delayOfNext 55 = .ok (.iconst (-1), 1) := by decide +kernel
theorem dX5_delayOfNext_56 : decode cX5_delayOfNext 56 = .ok (.ireturn, 1) := by decide +kernel
theorem dX6_init_0 : decode cX6_init 0 = .ok (.aload_n 0, 1) := by decide +kernel
theorem dX6_init_1 : decode cX6_init 1 = .ok (.invokespecial 3, 3) := by decide +kernel
theorem dX6_init_4 : decode cX6_init 4 = .ok (.aload_n 0, 1) := by decide +kernel
theorem dX6_init_5 : decode cX6_init 5 = .ok (.sipush 1000, 3) := by decide +kernel
theorem dX6_init_8 : decode cX6_init 8 = .ok (.newarray .int, 2) := by decide +kernel
theorem dX6_init_10 : decode cX6_init 10 = .ok (.putfield 11, 3) := by decide +kernel
theorem dX6_init_13 : decode cX6_init 13 = .ok (.aload_n 0, 1) := by decide +kernel
theorem dX6_init_14 : decode cX6_init 14 = .ok (.iconst 4, 1) := by decide +kernel
theorem dX6_init_15 : decode cX6_init 15 = .ok (.putfield 15, 3) := by decide +kernel
theorem dX6_init_18 : decode cX6_init 18 = .ok (.return_, 1) := by decide +kernel
theorem dX6_append_0 : decode cX6_append 0 = .ok (.aload_n 0, 1) := by decide +kernel
theorem dX6_append_1 : decode cX6_append 1 = .ok (.getfield 19, 3) := by decide +kernel
theorem dX6_append_4 : decode cX6_append 4 = .ok (.bipush 20, 2) := by decide +kernel
theorem dX6_append_6 : decode cX6_append 6 = .ok (.iadd, 1) := by decide +kernel
theorem dX6_append_7 : decode cX6_append 7 = .ok (.sipush 1000, 3) := by decide +kernel
theorem dX6_append_10 : decode cX6_append 10 = .ok (.if_icmp .le 5, 3) := by decide +kernel
theorem dX6_append_13 : decode cX6_append 13 = .ok (.iconst (-1), 1) := by decide +kernel
theorem dX6_append_14 : decode cX6_append 14 = .ok (.ireturn, 1) := by decide +kernel
theorem dX6_append_15 : decode cX6_append 15 = .ok (.aload_n 0, 1) := by decide +kernel
theorem dX6_append_16 : decode cX6_append 16 = .ok (.iload_n 1, 1) := by decide +kernel
theorem dX6_append_17 : decode cX6_append 17 = .ok (.invokevirtual 22, 3) := by decide +kernel
theorem dX6_append_20 : decode cX6_append 20 = .ok (.aload_n 0, 1) := by decide +kernel
theorem dX6_append_21 : decode cX6_append 21 = .ok (.iload_n 2, 1) := by decide +kernel
theorem dX6_append_22 : decode cX6_append 22 = .ok (.invokevirtual 22, 3) := by decide +kernel
theorem dX6_append_25 : decode cX6_append 25 = .ok (.aload_n 0, 1) := by decide +kernel
theorem dX6_append_26 : decode cX6_append 26 = .ok (.iload_n 3, 1) := by decide +kernel
theorem dX6_append_27 : decode cX6_append 27 = .ok (.invokevirtual 22, 3) := by decide +kernel
theorem dX6_append_30 : decode cX6_append 30 = .ok (.aload_n 0, 1) := by decide +kernel
theorem dX6_append_31 : decode cX6_append 31 = .ok (.iload 4, 2) := by decide +kernel
theorem dX6_append_33 : decode cX6_append 33 = .ok (.invokevirtual 22, 3) := by decide +kernel
theorem dX6_append_36 : decode cX6_append 36 = .ok (.aload_n 0, 1) := by decide +kernel
theorem dX6_append_37 : decode cX6_append 37 = .ok (.iload 5, 2) := by decide +kernel
theorem dX6_append_39 : decode cX6_append 39 = .ok (.invokevirtual 22, 3) := by decide +kernel
theorem dX6_append_42 : decode cX6_append 42 = .ok (.aload_n 0, 1) := by decide +kernel
theorem dX6_append_43 : decode cX6_append 43 = .ok (.getfield 19, 3) := by decide +kernel
theorem dX6_append_46 : decode cX6_append 46 = .ok (.ireturn, 1) := by decide +kernel
theorem dX6_put_0 : decode cX6_put 0 = .ok (.bipush 24, 2) := by decide +kernel
theorem dX6_put_2 : decode cX6_put 2 = .ok (.istore_n 2, 1) := by decide +kernel
theorem dX6_put_3 : decode cX6_put 3 = .ok (.iload_n 2, 1) := by decide +kernel
theorem dX6_put_4 : decode cX6_put 4 = .ok (.ifCond .lt 45, 3) := by decide +kernel
theorem dX6_put_7 : decode cX6_put 7 = .ok (.aload_n 0, 1) := by decide +kernel
theorem dX6_put_8 : decode cX6_put 8 = .ok (.getfield 19, 3) := by decide +kernel
theorem dX6_put_11 : decode cX6_put 11 = .ok (.sipush 1000, 3) := by decide +kernel
theorem dX6_put_14 : decode cX6_put 14 = .ok (.if_icmp .ge 35, 3) := by decide +kernel
theorem dX6_put_17 : decode cX6_put 17 = .ok (.aload_n 0, 1) := by decide +kernel
theorem dX6_put_18 : decode cX6_put 18 = .ok (.getfield 11, 3) := by decide +kernel
theorem dX6_put_21 : decode cX6_put 21 = .ok (.aload_n 0, 1) := by decide +kernel
theorem dX6_put_22 : decode cX6_put 22 = .ok (.getfield 19, 3) := by decide +kernel
theorem dX6_put_25 : decode cX6_put 25 = .ok (.iload_n 1, 1) := by decide +kernel
theorem dX6_put_26 : decode cX6_put 26 = .ok (.iload_n 2, 1) := by decide +kernel
theorem dX6_put_27 : decode cX6_put 27 = .ok (.iushr, 1) := by decide +kernel
theorem dX6_put_28 : decode cX6_put 28 = .ok (.sipush 255, 3) := by decide +kernel
theorem dX6_put_31 : decode cX6_put 31 = .ok (.iand, 1) := by decide +kernel
theorem dX6_put_32 : decode cX6_put 32 = .ok (.iastore, 1) := by decide +kernel
theorem dX6_put_33 : decode cX6_put 33 = .ok (.aload_n 0, 1) := by decide +kernel
theorem dX6_put_34 : decode cX6_put 34 = .ok (.dup, 1) := by decide +kernel
theorem dX6_put_35 : decode cX6_put 35 = .ok (.getfield 19, 3) := by decide +kernel
theorem dX6_put_38 : decode cX6_put 38 = .ok (.iconst 1, 1) := by decide +kernel
theorem dX6_put_39 : decode cX6_put 39 = .ok (.iadd, 1) := by decide +kernel
theorem dX6_put_40 : decode cX6_put 40 = .ok (.putfield 19, 3) := by decide +kernel
theorem dX6_put_43 : decode cX6_put 43 = .ok (.iinc 2 (-8), 3) := by decide +kernel
theorem dX6_put_46 : decode cX6_put 46 = .ok (.goto (-43), 3) := by decide +kernel
theorem dX6_put_49 : decode cX6_put 49 = .ok (.return_, 1) := by decide +kernel
theorem dX6_cut_0 : decode cX6_cut 0 = .ok (.iload_n 1, 1) := by decide +kernel
theorem dX6_cut_1 : decode cX6_cut 1 = .ok (.ifCond .lt 11, 3) := by decide +kernel
theorem dX6_cut_4 : decode cX6_cut 4 = .ok (.iload_n 1, 1) := by decide +kernel
theorem dX6_cut_5 : decode cX6_cut 5 = .ok (.aload_n 0, 1) := by decide +kernel
theorem dX6_cut_6 : decode cX6_cut 6 = .ok (.getfield 19, 3) := by decide +kernel
theorem dX6_cut_9 : decode cX6_cut 9 = .ok (.if_icmp .le 5, 3) := by decide +kernel
theorem dX6_cut_12 : decode cX6_cut 12 = .ok (.iconst (-1), 1) := by decide +kernel
theorem dX6_cut_13 : decode cX6_cut 13 = .ok (.ireturn, 1) := by decide +kernel
theorem dX6_cut_14 : decode cX6_cut 14 = .ok (.aload_n 0, 1) := by decide +kernel
theorem dX6_cut_15 : decode cX6_cut 15 = .ok (.iload_n 1, 1) := by decide +kernel
theorem dX6_cut_16 : decode cX6_cut 16 = .ok (.putfield 19, 3) := by decide +kernel
theorem dX6_cut_19 : decode cX6_cut 19 = .ok (.iload_n 1, 1) := by decide +kernel
theorem dX6_cut_20 : decode cX6_cut 20 = .ok (.ireturn, 1) := by decide +kernel
theorem dX6_rewind_0 : decode cX6_rewind 0 = .ok (.aload_n 0, 1) := by decide +kernel
theorem dX6_rewind_1 : decode cX6_rewind 1 = .ok (.iconst 0, 1) := by decide +kernel
theorem dX6_rewind_2 : decode cX6_rewind 2 = .ok (.putfield 26, 3) := by decide +kernel
theorem dX6_rewind_5 : decode cX6_rewind 5 = .ok (.aload_n 0, 1) := by decide +kernel
theorem dX6_rewind_6 : decode cX6_rewind 6 = .ok (.invokevirtual 29, 3) := by decide +kernel
theorem dX6_rewind_9 : decode cX6_rewind 9 = .ok (.return_, 1) := by decide +kernel
theorem dX6_advance_0 : decode cX6_advance 0 = .ok (.aload_n 0, 1) := by decide +kernel
theorem dX6_advance_1 : decode cX6_advance 1 = .ok (.getfield 26, 3) := by decide +kernel
theorem dX6_advance_4 : decode cX6_advance 4 = .ok (.aload_n 0, 1) := by decide +kernel
theorem dX6_advance_5 : decode cX6_advance 5 = .ok (.getfield 19, 3) := by decide +kernel
theorem dX6_advance_8 : decode cX6_advance 8 = .ok (.if_icmp .ge 28, 3) := by decide +kernel
theorem dX6_advance_11 : decode cX6_advance 11 = .ok (.aload_n 0, 1) := by decide +kernel
theorem dX6_advance_12 : decode cX6_advance 12 = .ok (.aload_n 0, 1) := by decide +kernel
theorem dX6_advance_13 : decode cX6_advance 13 = .ok (.getfield 26, 3) := by decide +kernel
theorem dX6_advance_16 : decode cX6_advance 16 = .ok (.invokevirtual 32, 3) := by decide +kernel
theorem dX6_advance_19 : decode cX6_advance 19 = .ok (.iconst 5, 1) := by decide +kernel
theorem dX6_advance_20 : decode cX6_advance 20 = .ok (.if_icmp .ne 16, 3) := by decide +kernel
theorem dX6_advance_23 : decode cX6_advance 23 = .ok (.aload_n 0, 1) := by decide +kernel
theorem dX6_advance_24 : decode cX6_advance 24 = .ok (.dup, 1) := by decide +kernel
theorem dX6_advance_25 : decode cX6_advance 25 = .ok (.getfield 26, 3) := by decide +kernel
theorem dX6_advance_28 : decode cX6_advance 28 = .ok (.iconst 1, 1) := by decide +kernel
theorem dX6_advance_29 : decode cX6_advance 29 = .ok (.iadd, 1) := by decide +kernel
theorem dX6_advance_30 : decode cX6_advance 30 = .ok (.putfield 26, 3) := by decide +kernel
theorem dX6_advance_33 : decode cX6_advance 33 = .ok (.goto (-33), 3) := by decide +kernel
theorem dX6_advance_36 : decode cX6_advance 36 = .ok (.aload_n 0, 1) := by decide +kernel
theorem dX6_advance_37 : decode cX6_advance 37 = .ok (.aload_n 0, 1) := by decide +kernel
theorem dX6_advance_38 : decode cX6_advance 38 = .ok (.getfield 26, 3) := by decide +kernel
theorem dX6_advance_41 : decode cX6_advance 41 = .ok (.putfield 36, 3) := by decide +kernel
theorem dX6_advance_44 : decode cX6_advance 44 = .ok (.aload_n 0, 1) := by decide +kernel
theorem dX6_advance_45 : decode cX6_advance 45 = .ok (.iconst 0, 1) := by decide +kernel
theorem dX6_advance_46 : decode cX6_advance 46 = .ok (.putfield 39, 3) := by decide +kernel
theorem dX6_advance_49 : decode cX6_advance 49 = .ok (.aload_n 0, 1) := by decide +kernel
theorem dX6_advance_50 : decode cX6_advance 50 = .ok (.aload_n 0, 1) := by decide +kernel
theorem dX6_advance_51 : decode cX6_advance 51 = .ok (.aload_n 0, 1) := by decide +kernel
theorem dX6_advance_52 : decode cX6_advance 52 = .ok (.getfield 26, 3) := by decide +kernel
theorem dX6_advance_55 : decode cX6_advance 55 = .ok (.invokevirtual 32, 3) := by decide +kernel
theorem dX6_advance_58 : decode cX6_advance 58 = .ok (.putfield 15, 3) := by decide +kernel
theorem dX6_advance_61 : decode cX6_advance 61 = .ok (.aload_n 0, 1) := by decide +kernel
theorem dX6_advance_62 : decode cX6_advance 62 = .ok (.getfield 15, 3) := by decide +kernel
theorem dX6_advance_65 : decode cX6_advance 65 = .ok (.iconst 2, 1) := by decide +kernel
theorem dX6_advance_66 : decode cX6_advance 66 = .ok (.if_icmp .eq 11, 3) := by decide +kernel
theorem dX6_advance_69 : decode cX6_advance 69 = .ok (.aload_n 0, 1) := by decide +kernel
theorem dX6_advance_70 : decode cX6_advance 70 = .ok (.getfield 15, 3) := by decide +kernel
theorem dX6_advance_73 : decode cX6_advance 73 = .ok (.iconst 3, 1) := by decide +kernel
theorem dX6_advance_74 : decode cX6_advance 74 = .ok (.if_icmp .ne 13, 3) := by decide +kernel
theorem dX6_advance_77 : decode cX6_advance 77 = .ok (.aload_n 0, 1) := by decide +kernel
theorem dX6_advance_78 : decode cX6_advance 78 = .ok (.dup, 1) := by decide +kernel
theorem dX6_advance_79 : decode cX6_advance 79 = .ok (.getfield 26, 3) := by decide +kernel
theorem dX6_advance_82 : decode cX6_advance 82 = .ok (.iconst 1, 1) := by decide +kernel
theorem dX6_advance_83 : decode cX6_advance 83 = .ok (.iadd, 1) := by decide +kernel
theorem dX6_advance_84 : decode cX6_advance 84 = .ok (.putfield 26, 3) := by decide +kernel
theorem dX6_advance_87 : decode cX6_advance 87 = .ok (.aload_n 0, 1) := by decide +kernel
theorem dX6_advance_88 : decode cX6_advance 88 = .ok (.getfield 26, 3) := by decide +kernel
theorem dX6_advance_91 : decode cX6_advance 91 = .ok (.aload_n 0, 1) := by decide +kernel
theorem dX6_advance_92 : decode cX6_advance 92 = .ok (.getfield 19, 3) := by decide +kernel
theorem dX6_advance_95 : decode cX6_advance 95 = .ok (.if_icmp .ge 34, 3) := by decide +kernel
theorem dX6_advance_98 : decode cX6_advance 98 = .ok (.aload_n 0, 1) := by decide +kernel
theorem dX6_advance_99 : decode cX6_advance 99 = .ok (.getfield 15, 3) := by decide +kernel
theorem dX6_advance_102 : decode cX6_advance 102 = .ok (.ifCond .ne 27, 3) := by decide +kernel
theorem dX6_advance_105 : decode cX6_advance 105 = .ok (.aload_n 0, 1) := by decide +kernel
theorem dX6_advance_106 : decode cX6_advance 106 = .ok (.aload_n 0, 1) := by decide +kernel
theorem dX6_advance_107 : decode cX6_advance 107 = .ok (.getfield 26, 3) := by decide +kernel
theorem dX6_advance_110 : decode cX6_advance 110 = .ok (.invokevirtual 32, 3) := by decide +kernel
theorem dX6_advance_113 : decode cX6_advance 113 = .ok (.ifCond .ne 16, 3) := by decide +kernel
theorem dX6_advance_116 : decode cX6_advance 116 = .ok (.aload_n 0, 1) := by decide +kernel
theorem dX6_advance_117 : decode cX6_advance 117 = .ok (.dup, 1) := by decide +kernel
theorem dX6_advance_118 : decode cX6_advance 118 = .ok (.getfield 26, 3) := by decide +kernel
theorem dX6_advance_121 : decode cX6_advance 121 = .ok (.iconst 1, 1) := by decide +kernel
theorem dX6_advance_122 : decode cX6_advance 122 = .ok (.iadd, 1) := by decide +kernel
theorem dX6_advance_123 : decode cX6_advance 123 = .ok (.putfield 26, 3) := by decide +kernel
theorem dX6_advance_126 : decode cX6_advance 126 = .ok (.goto (-39), 3) := by decide +kernel
theorem dX6_advance_129 : decode cX6_advance 129 = .ok (.aload_n 0, 1) := by decide +kernel
theorem dX6_advance_130 : decode cX6_advance 130 = .ok (.getfield 26, 3) := by decide +kernel
theorem dX6_advance_133 : decode cX6_advance 133 = .ok (.aload_n 0, 1) := by decide +kernel
theorem dX6_advance_134 : decode cX6_advance 134 = .ok (.getfield 19, 3) := by decide +kernel
theorem dX6_advance_137 : decode cX6_advance 137 = .ok (.if_icmp .ge 74, 3) := by decide +kernel
theorem dX6_advance_140 : decode cX6_advance 140 = .ok (.aload_n 0, 1) := by decide +kernel
theorem dX6_advance_141 : decode cX6_advance 141 = .ok (.getfield 15, 3) := by decide +kernel
theorem dX6_advance_144 : decode cX6_advance 144 = .ok (.iconst 1, 1) := by decide +kernel
theorem dX6_advance_145 : decode cX6_advance 145 = .ok (.if_icmp .ne 66, 3) := by decide +kernel
theorem dX6_advance_148 : decode cX6_advance 148 = .ok (.aload_n 0, 1) := by decide +kernel
theorem dX6_advance_149 : decode cX6_advance 149 = .ok (.aload_n 0, 1) := by decide +kernel
theorem dX6_advance_150 : decode cX6_advance 150 = .ok (.getfield 26, 3) := by decide +kernel
theorem dX6_advance_153 : decode cX6_advance 153 = .ok (.invokevirtual 32, 3) := by decide +kernel
theorem dX6_advance_156 : decode cX6_advance 156 = .ok (.iconst 1, 1) := by decide +kernel
theorem dX6_advance_157 : decode cX6_advance 157 = .ok (.if_icmp .ne 54, 3) := by decide +kernel
theorem dX6_advance_160 : decode cX6_advance 160 = .ok (.aload_n 0, 1) := by decide +kernel
theorem dX6_advance_161 : decode cX6_advance 161 = .ok (.aload_n 0, 1) := by decide +kernel
theorem dX6_advance_162 : decode cX6_advance 162 = .ok (.getfield 39, 3) := by decide +kernel
theorem dX6_advance_165 : decode cX6_advance 165 = .ok (.ldc 42, 2) := by decide +kernel
theorem dX6_advance_167 : decode cX6_advance 167 = .ok (.if_icmp .lt 8, 3) := by decide +kernel
theorem dX6_advance_170 : decode cX6_advance 170 = .ok (.ldc 42, 2) := by decide +kernel
theorem dX6_advance_172 : decode cX6_advance 172 = .ok (.goto 23, 3) := by decide +kernel
theorem dX6_advance_175 : decode cX6_advance 175 = .ok (.aload_n 0, 1) := by decide +kernel
theorem dX6_advance_176 : decode cX6_advance 176 = .ok (.getfield 39, 3) := by decide +kernel
theorem dX6_advance_179 : decode cX6_advance 179 = .ok (.bipush 10, 2) := by decide +kernel
theorem dX6_advance_181 : decode cX6_advance 181 = .ok (.imul, 1) := by decide +kernel
theorem dX6_advance_182 : decode cX6_advance 182 = .ok (.aload_n 0, 1) := by decide +kernel
theorem dX6_advance_183 : decode cX6_advance 183 = .ok (.getfield 11, 3) := by decide +kernel
theorem dX6_advance_186 : decode cX6_advance 186 = .ok (.aload_n 0, 1) := by decide +kernel
theorem dX6_advance_187 : decode cX6_advance 187 = .ok (.getfield 26, 3) := by decide +kernel
theorem dX6_advance_190 : decode cX6_advance 190 = .ok (.iaload, 1) := by decide +kernel
theorem dX6_advance_191 : decode cX6_advance 191 = .ok (.iadd, 1) := by decide +kernel
theorem dX6_advance_192 : decode cX6_advance 192 = .ok (.bipush 48, 2) := by decide +kernel
theorem dX6_advance_194 : decode cX6_advance 194 = .ok (.isub, 1) := by decide +kernel
theorem dX6_advance_195 : decode cX6_advance 195 = .ok (.putfield 39, 3) := by decide +kernel
theorem dX6_advance_198 : decode cX6_advance 198 = .ok (.aload_n 0, 1) := by decide +kernel
theorem dX6_advance_199 : decode cX6_advance 199 = .ok (.dup, 1) := by decide +kernel
theorem dX6_advance_200 : decode cX6_advance 200 = .ok (.getfield 26, 3) := by decide +kernel
theorem dX6_advance_203 : decode cX6_advance 203 = .ok (.iconst 1, 1) := by decide +kernel
theorem dX6_advance_204 : decode cX6_advance 204 = .ok (.iadd, 1) := by decide +kernel
theorem dX6_advance_205 : decode cX6_advance 205 = .ok (.putfield 26, 3) := by decide +kernel
theorem dX6_advance_208 : decode cX6_advance 208 = .ok (.goto (-79), 3) := by decide +kernel
theorem dX6_advance_211 : decode cX6_advance 211 = .ok (.return_, 1) := by decide +kernel
theorem dX6_kindAt_0 : decode cX6_kindAt 0 = .ok (.iload_n 1, 1) := by decide +kernel
theorem dX6_kindAt_1 : decode cX6_kindAt 1 = .ok (.ifCond .lt 11, 3) := by decide +kernel
theorem dX6_kindAt_4 : decode cX6_kindAt 4 = .ok (.iload_n 1, 1) := by decide +kernel
theorem dX6_kindAt_5 : decode cX6_kindAt 5 = .ok (.aload_n 0, 1) := by decide +kernel
theorem dX6_kindAt_6 : decode cX6_kindAt 6 = .ok (.getfield 19, 3) := by decide +kernel
theorem dX6_kindAt_9 : decode cX6_kindAt 9 = .ok (.if_icmp .lt 5, 3) := by decide +kernel
theorem dX6_kindAt_12 : decode cX6_kindAt 12 = .ok (.iconst 4, 1) := by decide +kernel
theorem dX6_kindAt_13 : decode cX6_kindAt 13 = .ok (.ireturn, 1) := by decide +kernel
theorem dX6_kindAt_14 : decode cX6_kindAt 14 = .ok (.aload_n 0, 1) := by decide +kernel
theorem dX6_kindAt_15 : decode cX6_kindAt 15 = .ok (.getfield 11, 3) := by decide +kernel
theorem dX6_kindAt_18 : decode cX6_kindAt 18 = .ok (.iload_n 1, 1) := by decide +kernel
theorem dX6_kindAt_19 : decode cX6_kindAt 19 = .ok (.iaload, 1) := by decide +kernel
theorem dX6_kindAt_20 : decode cX6_kindAt 20 = .ok (.istore_n 2, 1) := by decide +kernel
theorem dX6_kindAt_21 : decode cX6_kindAt 21 = .ok (.iload_n 2, 1) := by decide +kernel
theorem dX6_kindAt_22 : decode cX6_kindAt 22 = .ok (.bipush 97, 2) := by decide +kernel
theorem dX6_kindAt_24 : decode cX6_kindAt 24 = .ok (.if_icmp .lt 11, 3) := by decide +kernel
theorem dX6_kindAt_27 : decode cX6_kindAt 27 = .ok (.iload_n 2, 1) := by decide +kernel
theorem dX6_kindAt_28 : decode cX6_kindAt 28 = .ok (.bipush 122, 2) := by decide +kernel
theorem dX6_kindAt_30 : decode cX6_kindAt 30 = .ok (.if_icmp .gt 5, 3) := by decide +kernel
theorem dX6_kindAt_33 : decode cX6_kindAt 33 = .ok (.iconst 0, 1) := by decide +kernel
theorem dX6_kindAt_34 : decode cX6_kindAt 34 = .ok (.ireturn, 1) := by decide +kernel
theorem dX6_kindAt_35 : decode cX6_kindAt 35 = .ok (.iload_n 2, 1) := by decide +kernel
theorem dX6_kindAt_36 : decode cX6_kindAt 36 = .ok (.bipush 48, 2) := by decide +kernel
theorem dX6_kindAt_38 : decode cX6_kindAt 38 = .ok (.if_icmp .lt 11, 3) := by decide +kernel
theorem dX6_kindAt_41 : decode cX6_kindAt 41 = .ok (.iload_n 2, 1) := by decide +kernel
theorem dX6_kindAt_42 : decode cX6_kindAt 42 = .ok (.bipush 57, 2) := by decide +kernel
theorem dX6_kindAt_44 : decode cX6_kindAt 44 = .ok (.if_icmp .gt 5, 3) := by decide +kernel
theorem dX6_kindAt_47 : decode cX6_kindAt 47 = .ok (.iconst 1, 1) := by decide +kernel
theorem dX6_kindAt_48 : decode cX6_kindAt 48 = .ok (.ireturn, 1) := by decide +kernel
theorem dX6_kindAt_49 : decode cX6_kindAt 49 = .ok (.iload_n 2, 1) := by decide +kernel
theorem dX6_kindAt_50 : decode cX6_kindAt 50 = .ok (.bipush 32, 2) := by decide +kernel
theorem dX6_kindAt_52 : decode cX6_kindAt 52 = .ok (.if_icmp .eq 9, 3) := by decide +kernel
theorem dX6_kindAt_55 : decode cX6_kindAt 55 = .ok (.iload_n 2, 1) := by decide +kernel
theorem dX6_kindAt_56 : decode cX6_kindAt 56 = .ok (.bipush 10, 2) := by decide +kernel
theorem dX6_kindAt_58 : decode cX6_kindAt 58 = .ok (.if_icmp .ne 5, 3) := by decide +kernel
theorem dX6_kindAt_61 : decode cX6_kindAt 61 = .ok (.iconst 5, 1) := by decide +kernel
theorem dX6_kindAt_62 : decode cX6_kindAt 62 = .ok (.ireturn, 1) := by decide +kernel
theorem dX6_kindAt_63 : decode cX6_kindAt 63 = .ok (.iload_n 2, 1) := by decide +kernel
theorem dX6_kindAt_64 : decode cX6_kindAt 64 = .ok (.bipush 59, 2) := by decide +kernel
theorem dX6_kindAt_66 : decode cX6_kindAt 66 = .ok (.if_icmp .ne 7, 3) := by decide +kernel
theorem dX6_kindAt_69 : decode cX6_kindAt 69 = .ok (.iconst 2, 1) := by decide +kernel
theorem dX6_kindAt_70 : decode cX6_kindAt 70 = .ok (.goto 4, 3) := by decide +kernel
theorem dX6_kindAt_73 : decode cX6_kindAt 73 = .ok (.iconst 3, 1) := by decide +kernel
theorem dX6_kindAt_74 : decode cX6_kindAt 74 = .ok (.ireturn, 1) := by decide +kernel
theorem dX6_isWord_0 : decode cX6_isWord 0 = .ok (.aload_n 0, 1) := by decide +kernel
theorem dX6_isWord_1 : decode cX6_isWord 1 = .ok (.getfield 15, 3) := by decide +kernel
theorem dX6_isWord_4 : decode cX6_isWord 4 = .ok (.ifCond .ne 19, 3) := by decide +kernel
theorem dX6_isWord_7 : decode cX6_isWord 7 = .ok (.aload_n 0, 1) := by decide +kernel
theorem dX6_isWord_8 : decode cX6_isWord 8 = .ok (.getfield 26, 3) := by decide +kernel
theorem dX6_isWord_11 : decode cX6_isWord 11 = .ok (.aload_n 0, 1) := by decide +kernel
theorem dX6_isWord_12 : decode cX6_isWord 12 = .ok (.getfield 36, 3) := by decide +kernel
theorem dX6_isWord_15 : decode cX6_isWord 15 = .ok (.isub, 1) := by decide +kernel
theorem dX6_isWord_16 : decode cX6_isWord 16 = .ok (.aload_n 1, 1) := by decide +kernel
theorem dX6_isWord_17 : decode cX6_isWord 17 = .ok (.invokevirtual 43, 3) := by decide +kernel
theorem dX6_isWord_20 : decode cX6_isWord 20 = .ok (.if_icmp .eq 5, 3) := by decide +kernel
theorem dX6_isWord_23 : decode cX6_isWord 23 = .ok (.iconst 0, 1) := by decide +kernel
theorem dX6_isWord_24 : decode cX6_isWord 24 = .ok (.ireturn, 1) := by decide +kernel
theorem dX6_isWord_25 : decode cX6_isWord 25 = .ok (.iconst 0, 1) := by decide +kernel
theorem dX6_isWord_26 : decode cX6_isWord 26 = .ok (.istore_n 2, 1) := by decide +kernel
theorem dX6_isWord_27 : decode cX6_isWord 27 = .ok (.iload_n 2, 1) := by decide +kernel
theorem dX6_isWord_28 : decode cX6_isWord 28 = .ok (.aload_n 1, 1) := by decide +kernel
theorem dX6_isWord_29 : decode cX6_isWord 29 = .ok (.invokevirtual 43, 3) := by decide +kernel
theorem dX6_isWord_32 : decode cX6_isWord 32 = .ok (.if_icmp .ge 30, 3) := by decide +kernel
theorem dX6_isWord_35 : decode cX6_isWord 35 = .ok (.aload_n 0, 1) := by decide +kernel
theorem dX6_isWord_36 : decode cX6_isWord 36 = .ok (.getfield 11, 3) := by decide +kernel
theorem dX6_isWord_39 : decode cX6_isWord 39 = .ok (.aload_n 0, 1) := by decide +kernel
theorem dX6_isWord_40 : decode cX6_isWord 40 = .ok (.getfield 36, 3) := by decide +kernel
theorem dX6_isWord_43 : decode cX6_isWord 43 = .ok (.iload_n 2, 1) := by decide +kernel
theorem dX6_isWord_44 : decode cX6_isWord 44 = .ok (.iadd, 1) := by decide +kernel
theorem dX6_isWord_45 : decode cX6_isWord 45 = .ok (.iaload, 1) := by decide +kernel
theorem dX6_isWord_46 : decode cX6_isWord 46 = .ok (.aload_n 1, 1) := by decide +kernel
theorem dX6_isWord_47 : decode cX6_isWord 47 = .ok (.iload_n 2, 1) := by decide +kernel
theorem dX6_isWord_48 : decode cX6_isWord 48 = .ok (.invokevirtual 49, 3) := by decide +kernel
theorem dX6_isWord_51 : decode cX6_isWord 51 = .ok (.if_icmp .eq 5, 3) := by decide +kernel
theorem dX6_isWord_54 : decode cX6_isWord 54 = .ok (.iconst 0, 1) := by decide +kernel
theorem dX6_isWord_55 : decode cX6_isWord 55 = .ok (.ireturn, 1) := by decide +kernel
theorem dX6_isWord_56 : decode cX6_isWord 56 = .ok (.iinc 2 1, 3) := by decide +kernel
theorem dX6_isWord_59 : decode cX6_isWord 59 = .ok (.goto (-32), 3) := by decide +kernel
theorem dX6_isWord_62 : decode cX6_isWord 62 = .ok (.iconst 1, 1) := by decide +kernel
theorem dX6_isWord_63 : decode cX6_isWord 63 = .ok (.ireturn, 1) := by decide +kernel
theorem dX7_init_0 : decode cX7_init 0 = .ok (.aload_n 0, 1) := by decide +kernel
theorem dX7_init_1 : decode cX7_init 1 = .ok (.invokespecial 3, 3) := by decide +kernel
theorem dX7_init_4 : decode cX7_init 4 = .ok (.return_, 1) := by decide +kernel
theorem dX7_reset_0 : decode cX7_reset 0 = .ok (.aload_n 0, 1) := by decide +kernel
theorem dX7_reset_1 : decode cX7_reset 1 = .ok (.iconst 0, 1) := by decide +kernel
theorem dX7_reset_2 : decode cX7_reset 2 = .ok (.putfield 9, 3) := by decide +kernel
theorem dX7_reset_5 : decode cX7_reset 5 = .ok (.aload_n 0, 1) := by decide +kernel
theorem dX7_reset_6 : decode cX7_reset 6 = .ok (.iconst 0, 1) := by decide +kernel
theorem dX7_reset_7 : decode cX7_reset 7 = .ok (.putfield 15, 3) := by decide +kernel
theorem dX7_reset_10 : decode cX7_reset 10 = .ok (.aload_n 0, 1) := by decide +kernel
theorem dX7_reset_11 : decode cX7_reset 11 = .ok (.iconst 0, 1) := by decide +kernel
theorem dX7_reset_12 : decode cX7_reset 12 = .ok (.putfield 18, 3) := by decide +kernel
theorem dX7_reset_15 : decode cX7_reset 15 = .ok (.aload_n 0, 1) := by decide +kernel
theorem dX7_reset_16 : decode cX7_reset 16 = .ok (.fconst 1, 1) := by decide +kernel
theorem dX7_reset_17 : decode cX7_reset 17 = .ok (.putfield 21, 3) := by decide +kernel
theorem dX7_reset_20 : decode cX7_reset 20 = .ok (.aload_n 0, 1) := by decide +kernel
theorem dX7_reset_21 : decode cX7_reset 21 = .ok (.iconst 0, 1) := by decide +kernel
theorem dX7_reset_22 : decode cX7_reset 22 = .ok (.putfield 25, 3) := by decide +kernel
theorem dX7_reset_25 : decode cX7_reset 25 = .ok (.aload_n 0, 1) := by decide +kernel
theorem dX7_reset_26 : decode cX7_reset 26 = .ok (.iconst (-1), 1) := by decide +kernel
theorem dX7_reset_27 : decode cX7_reset 27 = .ok (.putfield 28, 3) := by decide +kernel
theorem dX7_reset_30 : decode cX7_reset 30 = .ok (.aload_n 0, 1) := by decide +kernel
theorem dX7_reset_31 : decode cX7_reset 31 = .ok (.iconst 0, 1) := by decide +kernel
theorem dX7_reset_32 : decode cX7_reset 32 = .ok (.putfield 31, 3) := by decide +kernel
theorem dX7_reset_35 : decode cX7_reset 35 = .ok (.aload_n 0, 1) := by decide +kernel
theorem dX7_reset_36 : decode cX7_reset 36 = .ok (.fconst 0, 1) := by decide +kernel
theorem dX7_reset_37 : decode cX7_reset 37 = .ok (.putfield 34, 3) := by decide +kernel
theorem dX7_reset_40 : decode cX7_reset 40 = .ok (.aload_n 0, 1) := by decide +kernel
theorem dX7_reset_41 : decode cX7_reset 41 = .ok (.dconst 0, 1) := by decide +kernel
theorem dX7_reset_42 : decode cX7_reset 42 = .ok (.putfield 37, 3) := by decide +kernel
theorem dX7_reset_45 : decode cX7_reset 45 = .ok (.aload_n 0, 1) := by decide +kernel
theorem dX7_reset_46 : decode cX7_reset 46 = .ok (.invokevirtual 41, 3) := by decide +kernel
theorem dX7_reset_49 : decode cX7_reset 49 = .ok (.aload_n 0, 1) := by decide +kernel
theorem dX7_reset_50 : decode cX7_reset 50 = .ok (.iconst 0, 1) := by decide +kernel
theorem dX7_reset_51 : decode cX7_reset 51 = .ok (.invokevirtual 44, 3) := by decide +kernel
theorem dX7_reset_54 : decode cX7_reset 54 = .ok (.return_, 1) := by decide +kernel
theorem dX7_restartAt_0 : decode cX7_restartAt 0 = .ok (.aload_n 0, 1) := by decide +kernel
theorem dX7_restartAt_1 : decode cX7_restartAt 1 = .ok (.iload_n 1, 1) := by decide +kernel
theorem dX7_restartAt_2 : decode cX7_restartAt 2 = .ok (.putfield 48, 3) := by decide +kernel
theorem dX7_restartAt_5 : decode cX7_restartAt 5 = .ok (.aload_n 0, 1) := by decide +kernel
theorem dX7_restartAt_6 : decode cX7_restartAt 6 = .ok (.iconst (-1), 1) := by decide +kernel
theorem dX7_restartAt_7 : decode cX7_restartAt 7 = .ok (.putfield 51, 3) := by decide +kernel
theorem dX7_restartAt_10 : decode cX7_restartAt 10 = .ok (.aload_n 0, 1) := by decide +kernel
theorem dX7_restartAt_11 : decode cX7_restartAt 11 = .ok (.iconst 0, 1) := by decide +kernel
theorem dX7_restartAt_12 : decode cX7_restartAt 12 = .ok (.putfield 54, 3) := by decide +kernel
theorem dX7_restartAt_15 : decode cX7_restartAt 15 = .ok (.aload_n 0, 1) := by decide +kernel
theorem dX7_restartAt_16 : decode cX7_restartAt 16 = .ok (.iconst (-1), 1) := by decide +kernel
theorem dX7_restartAt_17 : decode cX7_restartAt 17 = .ok (.putfield 57, 3) := by decide +kernel
theorem dX7_restartAt_20 : decode cX7_restartAt 20 = .ok (.aload_n 0, 1) := by decide +kernel
theorem dX7_restartAt_21 : decode cX7_restartAt 21 = .ok (.iconst (-1), 1) := by decide +kernel
theorem dX7_restartAt_22 : decode cX7_restartAt 22 = .ok (.putfield 60, 3) := by decide +kernel
theorem dX7_restartAt_25 : decode cX7_restartAt 25 = .ok (.aload_n 0, 1) := by decide +kernel
theorem dX7_restartAt_26 : decode cX7_restartAt 26 = .ok (.iconst 1, 1) := by decide +kernel
theorem dX7_restartAt_27 : decode cX7_restartAt 27 = .ok (.putfield 63, 3) := by decide +kernel
theorem dX7_restartAt_30 : decode cX7_restartAt 30 = .ok (.return_, 1) := by decide +kernel
theorem dX7_forgetCycle_0 : decode cX7_forgetCycle 0 = .ok (.aload_n 0, 1) := by decide +kernel
theorem dX7_forgetCycle_1 : decode cX7_forgetCycle 1 = .ok (.iconst 0, 1) := by decide +kernel
theorem dX7_forgetCycle_2 : decode cX7_forgetCycle 2 = .ok (.putfield 66, 3) := by decide +kernel
theorem dX7_forgetCycle_5 : decode cX7_forgetCycle 5 = .ok (.aload_n 0, 1) := by decide +kernel
theorem dX7_forgetCycle_6 : decode cX7_forgetCycle 6 = .ok (.iconst 0, 1) := by decide +kernel
theorem dX7_forgetCycle_7 : decode cX7_forgetCycle 7 = .ok (.putfield 70, 3) := by decide +kernel
theorem dX7_forgetCycle_10 : decode cX7_forgetCycle 10 = .ok (.return_, 1) := by decide +kernel
theorem dX7_copyFrom_0 : decode cX7_copyFrom 0 = .ok (.aload_n 0, 1) := by decide +kernel
theorem dX7_copyFrom_1 : decode cX7_copyFrom 1 = .ok (.aload_n 1, 1) := by decide +kernel
theorem dX7_copyFrom_2 : decode cX7_copyFrom 2 = .ok (.getfield 48, 3) := by decide +kernel
theorem dX7_copyFrom_5 : decode cX7_copyFrom 5 = .ok (.putfield 48, 3) := by decide +kernel
theorem dX7_copyFrom_8 : decode cX7_copyFrom 8 = .ok (.aload_n 0, 1) := by decide +kernel
theorem dX7_copyFrom_9 : decode cX7_copyFrom 9 = .ok (.aload_n 1, 1) := by decide +kernel
theorem dX7_copyFrom_10 : decode cX7_copyFrom 10 = .ok (.getfield 9, 3) := by decide +kernel
theorem dX7_copyFrom_13 : decode cX7_copyFrom 13 = .ok (.putfield 9, 3) := by decide +kernel
theorem dX7_copyFrom_16 : decode cX7_copyFrom 16 = .ok (.aload_n 0, 1) := by decide +kernel
theorem dX7_copyFrom_17 : decode cX7_copyFrom 17 = .ok (.aload_n 1, 1) := by decide +kernel
theorem dX7_copyFrom_18 : decode cX7_copyFrom 18 = .ok (.getfield 51, 3) := by decide +kernel
theorem dX7_copyFrom_21 : decode cX7_copyFrom 21 = .ok (.putfield 51, 3) := by decide +kernel
theorem dX7_copyFrom_24 : decode cX7_copyFrom 24 = .ok (.aload_n 0, 1) := by decide +kernel
theorem dX7_copyFrom_25 : decode cX7_copyFrom 25 = .ok (.aload_n 1, 1) := by decide +kernel
theorem dX7_copyFrom_26 : decode cX7_copyFrom 26 = .ok (.getfield 54, 3) := by decide +kernel
theorem dX7_copyFrom_29 : decode cX7_copyFrom 29 = .ok (.putfield 54, 3) := by decide +kernel
theorem dX7_copyFrom_32 : decode cX7_copyFrom 32 = .ok (.aload_n 0, 1) := by decide +kernel
theorem dX7_copyFrom_33 : decode cX7_copyFrom 33 = .ok (.aload_n 1, 1) := by decide +kernel
theorem dX7_copyFrom_34 : decode cX7_copyFrom 34 = .ok (.getfield 57, 3) := by decide +kernel
theorem dX7_copyFrom_37 : decode cX7_copyFrom 37 = .ok (.putfield 57, 3) := by decide +kernel
theorem dX7_copyFrom_40 : decode cX7_copyFrom 40 = .ok (.aload_n 0, 1) := by decide +kernel
theorem dX7_copyFrom_41 : decode cX7_copyFrom 41 = .ok (.aload_n 1, 1) := by decide +kernel
theorem dX7_copyFrom_42 : decode cX7_copyFrom 42 = .ok (.getfield 60, 3) := by decide +kernel
theorem dX7_copyFrom_45 : decode cX7_copyFrom 45 = .ok (.putfield 60, 3) := by decide +kernel
theorem dX7_copyFrom_48 : decode cX7_copyFrom 48 = .ok (.aload_n 0, 1) := by decide +kernel
theorem dX7_copyFrom_49 : decode cX7_copyFrom 49 = .ok (.aload_n 1, 1) := by decide +kernel
theorem dX7_copyFrom_50 : decode cX7_copyFrom 50 = .ok (.getfield 63, 3) := by decide +kernel
theorem dX7_copyFrom_53 : decode cX7_copyFrom 53 = .ok (.putfield 63, 3) := by decide +kernel
theorem dX7_copyFrom_56 : decode cX7_copyFrom 56 = .ok (.aload_n 0, 1) := by decide +kernel
theorem dX7_copyFrom_57 : decode cX7_copyFrom 57 = .ok (.aload_n 1, 1) := by decide +kernel
theorem dX7_copyFrom_58 : decode cX7_copyFrom 58 = .ok (.getfield 15, 3) := by decide +kernel
theorem dX7_copyFrom_61 : decode cX7_copyFrom 61 = .ok (.putfield 15, 3) := by decide +kernel
theorem dX7_copyFrom_64 : decode cX7_copyFrom 64 = .ok (.aload_n 0, 1) := by decide +kernel
theorem dX7_copyFrom_65 : decode cX7_copyFrom 65 = .ok (.aload_n 1, 1) := by decide +kernel
theorem dX7_copyFrom_66 : decode cX7_copyFrom 66 = .ok (.getfield 18, 3) := by decide +kernel
theorem dX7_copyFrom_69 : decode cX7_copyFrom 69 = .ok (.putfield 18, 3) := by decide +kernel
theorem dX7_copyFrom_72 : decode cX7_copyFrom 72 = .ok (.aload_n 0, 1) := by decide +kernel
theorem dX7_copyFrom_73 : decode cX7_copyFrom 73 = .ok (.aload_n 1, 1) := by decide +kernel
theorem dX7_copyFrom_74 : decode cX7_copyFrom 74 = .ok (.getfield 66, 3) := by decide +kernel
theorem dX7_copyFrom_77 : decode cX7_copyFrom 77 = .ok (.putfield 66, 3) := by decide +kernel
theorem dX7_copyFrom_80 : decode cX7_copyFrom 80 = .ok (.aload_n 0, 1) := by decide +kernel
theorem dX7_copyFrom_81 : decode cX7_copyFrom 81 = .ok (.aload_n 1, 1) := by decide +kernel
theorem dX7_copyFrom_82 : decode cX7_copyFrom 82 = .ok (.getfield 70, 3) := by decide +kernel
theorem dX7_copyFrom_85 : decode cX7_copyFrom 85 = .ok (.putfield 70, 3) := by decide +kernel
theorem dX7_copyFrom_88 : decode cX7_copyFrom 88 = .ok (.aload_n 0, 1) := by decide +kernel
theorem dX7_copyFrom_89 : decode cX7_copyFrom 89 = .ok (.aload_n 1, 1) := by decide +kernel
theorem dX7_copyFrom_90 : decode cX7_copyFrom 90 = .ok (.getfield 21, 3) := by decide +kernel
theorem dX7_copyFrom_93 : decode cX7_copyFrom 93 = .ok (.putfield 21, 3) := by decide +kernel
theorem dX7_copyFrom_96 : decode cX7_copyFrom 96 = .ok (.aload_n 0, 1) := by decide +kernel
theorem dX7_copyFrom_97 : decode cX7_copyFrom 97 = .ok (.aload_n 1, 1) := by decide +kernel
theorem dX7_copyFrom_98 : decode cX7_copyFrom 98 = .ok (.getfield 25, 3) := by decide +kernel
theorem dX7_copyFrom_101 : decode cX7_copyFrom 101 = .ok (.putfield 25, 3) := by decide +kernel
theorem dX7_copyFrom_104 : decode cX7_copyFrom 104 = .ok (.aload_n 0, 1) := by decide +kernel
theorem dX7_copyFrom_105 : decode cX7_copyFrom 105 = .ok (.aload_n 1, 1) := by decide +kernel
theorem dX7_copyFrom_106 : decode cX7_copyFrom 106 = .ok (.getfield 28, 3) := by decide +kernel
theorem dX7_copyFrom_109 : decode cX7_copyFrom 109 = .ok (.putfield 28, 3) := by decide +kernel
theorem dX7_copyFrom_112 : decode cX7_copyFrom 112 = .ok (.aload_n 0, 1) := by decide +kernel
theorem dX7_copyFrom_113 : decode cX7_copyFrom 113 = .ok (.aload_n 1, 1) := by decide +kernel
theorem dX7_copyFrom_114 : decode cX7_copyFrom 114 = .ok (.getfield 31, 3) := by decide +kernel
theorem dX7_copyFrom_117 : decode cX7_copyFrom 117 = .ok (.putfield 31, 3) := by decide +kernel
theorem dX7_copyFrom_120 : decode cX7_copyFrom 120 = .ok (.aload_n 0, 1) := by decide +kernel
theorem dX7_copyFrom_121 : decode cX7_copyFrom 121 = .ok (.aload_n 1, 1) := by decide +kernel
theorem dX7_copyFrom_122 : decode cX7_copyFrom 122 = .ok (.getfield 34, 3) := by decide +kernel
theorem dX7_copyFrom_125 : decode cX7_copyFrom 125 = .ok (.putfield 34, 3) := by decide +kernel
theorem dX7_copyFrom_128 : decode cX7_copyFrom 128 = .ok (.aload_n 0, 1) := by decide +kernel
theorem dX7_copyFrom_129 : decode cX7_copyFrom 129 = .ok (.aload_n 1, 1) := by decide +kernel
theorem dX7_copyFrom_130 : decode cX7_copyFrom 130 = .ok (.getfield 37, 3) := by decide +kernel
theorem dX7_copyFrom_133 : decode cX7_copyFrom 133 = .ok (.putfield 37, 3) := by decide +kernel
theorem dX7_copyFrom_136 : decode cX7_copyFrom 136 = .ok (.return_, 1) := by decide +kernel
theorem dX7_job_0 : decode cX7_job 0 = .ok (.aload_n 0, 1) := by decide +kernel
theorem dX7_job_1 : decode cX7_job 1 = .ok (.getfield 9, 3) := by decide +kernel
theorem dX7_job_4 : decode cX7_job 4 = .ok (.iconst 1, 1) := by decide +kernel
theorem dX7_job_5 : decode cX7_job 5 = .ok (.isub, 1) := by decide +kernel
theorem dX7_job_6 : decode cX7_job 6 = .ok (.ireturn, 1) := by decide +kernel
theorem dX7_wantsTick_0 : decode cX7_wantsTick 0 = .ok (.aload_n 0, 1) := by decide +kernel
theorem dX7_wantsTick_1 : decode cX7_wantsTick 1 = .ok (.getfield 51, 3) := by decide +kernel
theorem dX7_wantsTick_4 : decode cX7_wantsTick 4 = .ok (.iconst (-1), 1) := by decide +kernel
theorem dX7_wantsTick_5 : decode cX7_wantsTick 5 = .ok (.if_icmp .eq 15, 3) := by decide +kernel
theorem dX7_wantsTick_8 : decode cX7_wantsTick 8 = .ok (.aload_n 0, 1) := by decide +kernel
theorem dX7_wantsTick_9 : decode cX7_wantsTick 9 = .ok (.getfield 57, 3) := by decide +kernel
theorem dX7_wantsTick_12 : decode cX7_wantsTick 12 = .ok (.iconst 1, 1) := by decide +kernel
theorem dX7_wantsTick_13 : decode cX7_wantsTick 13 = .ok (.if_icmp .eq 7, 3) := by decide +kernel
theorem dX7_wantsTick_16 : decode cX7_wantsTick 16 = .ok (.iconst 1, 1) := by decide +kernel
theorem dX7_wantsTick_17 : decode cX7_wantsTick 17 = .ok (.goto 4, 3) := by decide +kernel
theorem dX7_wantsTick_20 : decode cX7_wantsTick 20 = .ok (.iconst 0, 1) := by decide +kernel
theorem dX7_wantsTick_21 : decode cX7_wantsTick 21 = .ok (.ireturn, 1) := by decide +kernel
theorem dX7_gapAt_0 : decode cX7_gapAt 0 = .ok (.aload_n 0, 1) := by decide +kernel
theorem dX7_gapAt_1 : decode cX7_gapAt 1 = .ok (.getfield 60, 3) := by decide +kernel
theorem dX7_gapAt_4 : decode cX7_gapAt 4 = .ok (.iconst (-1), 1) := by decide +kernel
theorem dX7_gapAt_5 : decode cX7_gapAt 5 = .ok (.if_icmp .ne 14, 3) := by decide +kernel
theorem dX7_gapAt_8 : decode cX7_gapAt 8 = .ok (.iload_n 1, 1) := by decide +kernel
theorem dX7_gapAt_9 : decode cX7_gapAt 9 = .ok (.aload_n 0, 1) := by decide +kernel
theorem dX7_gapAt_10 : decode cX7_gapAt 10 = .ok (.getfield 48, 3) := by decide +kernel
theorem dX7_gapAt_13 : decode cX7_gapAt 13 = .ok (.isub, 1) := by decide +kernel
theorem dX7_gapAt_14 : decode cX7_gapAt 14 = .ok (.iconst 1, 1) := by decide +kernel
theorem dX7_gapAt_15 : decode cX7_gapAt 15 = .ok (.iadd, 1) := by decide +kernel
theorem dX7_gapAt_16 : decode cX7_gapAt 16 = .ok (.goto 9, 3) := by decide +kernel
theorem dX7_gapAt_19 : decode cX7_gapAt 19 = .ok (.iload_n 1, 1) := by decide +kernel
theorem dX7_gapAt_20 : decode cX7_gapAt 20 = .ok (.aload_n 0, 1) := by decide +kernel
theorem dX7_gapAt_21 : decode cX7_gapAt 21 = .ok (.getfield 60, 3) := by decide +kernel
theorem dX7_gapAt_24 : decode cX7_gapAt 24 = .ok (.isub, 1) := by decide +kernel
theorem dX7_gapAt_25 : decode cX7_gapAt 25 = .ok (.ireturn, 1) := by decide +kernel
theorem dX7_suffer_0 : decode cX7_suffer 0 = .ok (.aload_n 0, 1) := by decide +kernel
theorem dX7_suffer_1 : decode cX7_suffer 1 = .ok (.dup, 1) := by decide +kernel
theorem dX7_suffer_2 : decode cX7_suffer 2 = .ok (.getfield 15, 3) := by decide +kernel
theorem dX7_suffer_5 : decode cX7_suffer 5 = .ok (.iconst 1, 1) := by decide +kernel
theorem dX7_suffer_6 : decode cX7_suffer 6 = .ok (.iadd, 1) := by decide +kernel
theorem dX7_suffer_7 : decode cX7_suffer 7 = .ok (.putfield 15, 3) := by decide +kernel
theorem dX7_suffer_10 : decode cX7_suffer 10 = .ok (.aload_n 0, 1) := by decide +kernel
theorem dX7_suffer_11 : decode cX7_suffer 11 = .ok (.aload_n 0, 1) := by decide +kernel
theorem dX7_suffer_12 : decode cX7_suffer 12 = .ok (.getfield 21, 3) := by decide +kernel
theorem dX7_suffer_15 : decode cX7_suffer 15 = .ok (.fconst 2, 1) := by decide +kernel
theorem dX7_suffer_16 : decode cX7_suffer 16 = .ok (.fdiv, 1) := by decide +kernel
theorem dX7_suffer_17 : decode cX7_suffer 17 = .ok (.putfield 21, 3) := by decide +kernel
theorem dX7_suffer_20 : decode cX7_suffer 20 = .ok (.aload_n 0, 1) := by decide +kernel
theorem dX7_suffer_21 : decode cX7_suffer 21 = .ok (.iconst 0, 1) := by decide +kernel
theorem dX7_suffer_22 : decode cX7_suffer 22 = .ok (.putfield 18, 3) := by decide +kernel
theorem dX7_suffer_25 : decode cX7_suffer 25 = .ok (.aload_n 0, 1) := by decide +kernel
theorem dX7_suffer_26 : decode cX7_suffer 26 = .ok (.iconst 1, 1) := by decide +kernel
theorem dX7_suffer_27 : decode cX7_suffer 27 = .ok (.putfield 66, 3) := by decide +kernel
theorem dX7_suffer_30 : decode cX7_suffer 30 = .ok (.return_, 1) := by decide +kernel
theorem dX7_kickWell_0 : decode cX7_kickWell 0 = .ok (.aload_n 0, 1) := by decide +kernel
theorem dX7_kickWell_1 : decode cX7_kickWell 1 = .ok (.getfield 60, 3) := by decide +kernel
theorem dX7_kickWell_4 : decode cX7_kickWell 4 = .ok (.iconst (-1), 1) := by decide +kernel
theorem dX7_kickWell_5 : decode cX7_kickWell 5 = .ok (.if_icmp .eq 17, 3) := by decide +kernel
theorem dX7_kickWell_8 : decode cX7_kickWell 8 = .ok (.aload_n 0, 1) := by decide +kernel
theorem dX7_kickWell_9 : decode cX7_kickWell 9 = .ok (.iload_n 3, 1) := by decide +kernel
theorem dX7_kickWell_10 : decode cX7_kickWell 10 = .ok (.aload_n 0, 1) := by decide +kernel
theorem dX7_kickWell_11 : decode cX7_kickWell 11 = .ok (.iload_n 1, 1) := by decide +kernel
theorem dX7_kickWell_12 : decode cX7_kickWell 12 = .ok (.invokevirtual 73, 3) := by decide +kernel
theorem dX7_kickWell_15 : decode cX7_kickWell 15 = .ok (.isub, 1) := by decide +kernel
theorem dX7_kickWell_16 : decode cX7_kickWell 16 = .ok (.iload_n 3, 1) := by decide +kernel
theorem dX7_kickWell_17 : decode cX7_kickWell 17 = .ok (.iload_n 2, 1) := by decide +kernel
theorem dX7_kickWell_18 : decode cX7_kickWell 18 = .ok (.isub, 1) := by decide +kernel
theorem dX7_kickWell_19 : decode cX7_kickWell 19 = .ok (.invokevirtual 77, 3) := by decide +kernel
theorem dX7_kickWell_22 : decode cX7_kickWell 22 = .ok (.aload_n 0, 1) := by decide +kernel
theorem dX7_kickWell_23 : decode cX7_kickWell 23 = .ok (.dup, 1) := by decide +kernel
theorem dX7_kickWell_24 : decode cX7_kickWell 24 = .ok (.getfield 25, 3) := by decide +kernel
theorem dX7_kickWell_27 : decode cX7_kickWell 27 = .ok (.iconst 1, 1) := by decide +kernel
theorem dX7_kickWell_28 : decode cX7_kickWell 28 = .ok (.iadd, 1) := by decide +kernel
theorem dX7_kickWell_29 : decode cX7_kickWell 29 = .ok (.putfield 25, 3) := by decide +kernel
theorem dX7_kickWell_32 : decode cX7_kickWell 32 = .ok (.aload_n 0, 1) := by decide +kernel
theorem dX7_kickWell_33 : decode cX7_kickWell 33 = .ok (.dup, 1) := by decide +kernel
theorem dX7_kickWell_34 : decode cX7_kickWell 34 = .ok (.getfield 70, 3) := by decide +kernel
theorem dX7_kickWell_37 : decode cX7_kickWell 37 = .ok (.iconst 1, 1) := by decide +kernel
theorem dX7_kickWell_38 : decode cX7_kickWell 38 = .ok (.iadd, 1) := by decide +kernel
theorem dX7_kickWell_39 : decode cX7_kickWell 39 = .ok (.putfield 70, 3) := by decide +kernel
theorem dX7_kickWell_42 : decode cX7_kickWell 42 = .ok (.aload_n 0, 1) := by decide +kernel
theorem dX7_kickWell_43 : decode cX7_kickWell 43 = .ok (.iload_n 1, 1) := by decide +kernel
theorem dX7_kickWell_44 : decode cX7_kickWell 44 = .ok (.putfield 28, 3) := by decide +kernel
theorem dX7_kickWell_47 : decode cX7_kickWell 47 = .ok (.aload_n 0, 1) := by decide +kernel
theorem dX7_kickWell_48 : decode cX7_kickWell 48 = .ok (.iload_n 1, 1) := by decide +kernel
theorem dX7_kickWell_49 : decode cX7_kickWell 49 = .ok (.putfield 60, 3) := by decide +kernel
theorem dX7_kickWell_52 : decode cX7_kickWell 52 = .ok (.aload_n 0, 1) := by decide +kernel
theorem dX7_kickWell_53 : decode cX7_kickWell 53 = .ok (.aload_n 0, 1) := by decide +kernel
theorem dX7_kickWell_54 : decode cX7_kickWell 54 = .ok (.getfield 21, 3) := by decide +kernel
theorem dX7_kickWell_57 : decode cX7_kickWell 57 = .ok (.fconst 1, 1) := by decide +kernel
theorem dX7_kickWell_58 : decode cX7_kickWell 58 = .ok (.aload_n 0, 1) := by decide +kernel
theorem dX7_kickWell_59 : decode cX7_kickWell 59 = .ok (.getfield 21, 3) := by decide +kernel
theorem dX7_kickWell_62 : decode cX7_kickWell 62 = .ok (.fsub, 1) := by decide +kernel
theorem dX7_kickWell_63 : decode cX7_kickWell 63 = .ok (.ldc 81, 2) := by decide +kernel
theorem dX7_kickWell_65 : decode cX7_kickWell 65 = .ok (.fmul, 1) := by decide +kernel
theorem dX7_kickWell_66 : decode cX7_kickWell 66 = .ok (.fadd, 1) := by decide +kernel
theorem dX7_kickWell_67 : decode cX7_kickWell 67 = .ok (.putfield 21, 3) := by decide +kernel
theorem dX7_kickWell_70 : decode cX7_kickWell 70 = .ok (.aload_n 0, 1) := by decide +kernel
theorem dX7_kickWell_71 : decode cX7_kickWell 71 = .ok (.bipush 13, 2) := by decide +kernel
theorem dX7_kickWell_73 : decode cX7_kickWell 73 = .ok (.aload_n 0, 1) := by decide +kernel
theorem dX7_kickWell_74 : decode cX7_kickWell 74 = .ok (.getfield 63, 3) := by decide +kernel
theorem dX7_kickWell_77 : decode cX7_kickWell 77 = .ok (.imul, 1) := by decide +kernel
theorem dX7_kickWell_78 : decode cX7_kickWell 78 = .ok (.bipush 7, 2) := by decide +kernel
theorem dX7_kickWell_80 : decode cX7_kickWell 80 = .ok (.iadd, 1) := by decide +kernel
theorem dX7_kickWell_81 : decode cX7_kickWell 81 = .ok (.bipush 64, 2) := by decide +kernel
theorem dX7_kickWell_83 : decode cX7_kickWell 83 = .ok (.irem, 1) := by decide +kernel
theorem dX7_kickWell_84 : decode cX7_kickWell 84 = .ok (.putfield 63, 3) := by decide +kernel
theorem dX7_kickWell_87 : decode cX7_kickWell 87 = .ok (.aload_n 0, 1) := by decide +kernel
theorem dX7_kickWell_88 : decode cX7_kickWell 88 = .ok (.iconst (-1), 1) := by decide +kernel
theorem dX7_kickWell_89 : decode cX7_kickWell 89 = .ok (.putfield 51, 3) := by decide +kernel
theorem dX7_kickWell_92 : decode cX7_kickWell 92 = .ok (.aload_n 0, 1) := by decide +kernel
theorem dX7_kickWell_93 : decode cX7_kickWell 93 = .ok (.iconst (-1), 1) := by decide +kernel
theorem dX7_kickWell_94 : decode cX7_kickWell 94 = .ok (.putfield 57, 3) := by decide +kernel
theorem dX7_kickWell_97 : decode cX7_kickWell 97 = .ok (.return_, 1) := by decide +kernel
theorem dX7_addMargin_0 : decode cX7_addMargin 0 = .ok (.iload_n 2, 1) := by decide +kernel
theorem dX7_addMargin_1 : decode cX7_addMargin 1 = .ok (.iconst 1, 1) := by decide +kernel
theorem dX7_addMargin_2 : decode cX7_addMargin 2 = .ok (.if_icmp .ge 4, 3) := by decide +kernel
theorem dX7_addMargin_5 : decode cX7_addMargin 5 = .ok (.return_, 1) := by decide +kernel
theorem dX7_addMargin_6 : decode cX7_addMargin 6 = .ok (.iload_n 1, 1) := by decide +kernel
theorem dX7_addMargin_7 : decode cX7_addMargin 7 = .ok (.i2f, 1) := by decide +kernel
theorem dX7_addMargin_8 : decode cX7_addMargin 8 = .ok (.iload_n 2, 1) := by decide +kernel
theorem dX7_addMargin_9 : decode cX7_addMargin 9 = .ok (.i2f, 1) := by decide +kernel
theorem dX7_addMargin_10 : decode cX7_addMargin 10 = .ok (.fdiv, 1) := by decide +kernel
theorem dX7_addMargin_11 : decode cX7_addMargin 11 = .ok (.fstore_n 3, 1) := by decide +kernel
theorem dX7_addMargin_12 : decode cX7_addMargin 12 = .ok (.aload_n 0, 1) := by decide +kernel
theorem dX7_addMargin_13 : decode cX7_addMargin 13 = .ok (.getfield 31, 3) := by decide +kernel
theorem dX7_addMargin_16 : decode cX7_addMargin 16 = .ok (.ifCond .eq 12, 3) := by decide +kernel
theorem dX7_addMargin_19 : decode cX7_addMargin 19 = .ok (.fload_n 3, 1) := by decide +kernel
theorem dX7_addMargin_20 : decode cX7_addMargin 20 = .ok (.aload_n 0, 1) := by decide +kernel
theorem dX7_addMargin_21 : decode cX7_addMargin 21 = .ok (.getfield 34, 3) := by decide +kernel
theorem dX7_addMargin_24 : decode cX7_addMargin 24 = .ok (.fcmp .g, 1) := by decide +kernel
theorem dX7_addMargin_25 : decode cX7_addMargin 25 = .ok (.ifCond .ge 8, 3) := by decide +kernel
theorem dX7_addMargin_28 : decode cX7_addMargin 28 = .ok (.aload_n 0, 1) := by decide +kernel
theorem dX7_addMargin_29 : decode cX7_addMargin 29 = .ok (.fload_n 3, 1) := by decide +kernel
theorem dX7_addMargin_30 : decode cX7_addMargin 30 = .ok (.putfield 34, 3) := by decide +kernel
theorem dX7_addMargin_33 : decode cX7_addMargin 33 = .ok (.aload_n 0, 1) := by decide +kernel
theorem dX7_addMargin_34 : decode cX7_addMargin 34 = .ok (.dup, 1) := by decide +kernel
theorem dX7_addMargin_35 : decode cX7_addMargin 35 = .ok (.getfield 31, 3) := by decide +kernel
theorem dX7_addMargin_38 : decode cX7_addMargin 38 = .ok (.iconst 1, 1) := by decide +kernel
theorem dX7_addMargin_39 : decode cX7_addMargin 39 = .ok (.iadd, 1) := by decide +kernel
theorem dX7_addMargin_40 : decode cX7_addMargin 40 = .ok (.putfield 31, 3) := by decide +kernel
theorem dX7_addMargin_43 : decode cX7_addMargin 43 = .ok (.aload_n 0, 1) := by decide +kernel
theorem dX7_addMargin_44 : decode cX7_addMargin 44 = .ok (.aload_n 0, 1) := by decide +kernel
theorem dX7_addMargin_45 : decode cX7_addMargin 45 = .ok (.getfield 37, 3) := by decide +kernel
theorem dX7_addMargin_48 : decode cX7_addMargin 48 = .ok (.fload_n 3, 1) := by decide +kernel
theorem dX7_addMargin_49 : decode cX7_addMargin 49 = .ok (.f2d, 1) := by decide +kernel
theorem dX7_addMargin_50 : decode cX7_addMargin 50 = .ok (.dadd, 1) := by decide +kernel
theorem dX7_addMargin_51 : decode cX7_addMargin 51 = .ok (.putfield 37, 3) := by decide +kernel
theorem dX7_addMargin_54 : decode cX7_addMargin 54 = .ok (.return_, 1) := by decide +kernel
theorem dX7_endCycle_0 : decode cX7_endCycle 0 = .ok (.aload_n 0, 1) := by decide +kernel
theorem dX7_endCycle_1 : decode cX7_endCycle 1 = .ok (.getfield 66, 3) := by decide +kernel
theorem dX7_endCycle_4 : decode cX7_endCycle 4 = .ok (.ifCond .ne 10, 3) := by decide +kernel
theorem dX7_endCycle_7 : decode cX7_endCycle 7 = .ok (.aload_n 0, 1) := by decide +kernel
theorem dX7_endCycle_8 : decode cX7_endCycle 8 = .ok (.getfield 15, 3) := by decide +kernel
theorem dX7_endCycle_11 : decode cX7_endCycle 11 = .ok (.ifCond .ne 4, 3) := by decide +kernel
theorem dX7_endCycle_14 : decode cX7_endCycle 14 = .ok (.return_, 1) := by decide +kernel
theorem dX7_endCycle_15 : decode cX7_endCycle 15 = .ok (.aload_n 0, 1) := by decide +kernel
theorem dX7_endCycle_16 : decode cX7_endCycle 16 = .ok (.dup, 1) := by decide +kernel
theorem dX7_endCycle_17 : decode cX7_endCycle 17 = .ok (.getfield 18, 3) := by decide +kernel
theorem dX7_endCycle_20 : decode cX7_endCycle 20 = .ok (.iconst 1, 1) := by decide +kernel
theorem dX7_endCycle_21 : decode cX7_endCycle 21 = .ok (.iadd, 1) := by decide +kernel
theorem dX7_endCycle_22 : decode cX7_endCycle 22 = .ok (.putfield 18, 3) := by decide +kernel
theorem dX7_endCycle_25 : decode cX7_endCycle 25 = .ok (.aload_n 0, 1) := by decide +kernel
theorem dX7_endCycle_26 : decode cX7_endCycle 26 = .ok (.getfield 18, 3) := by decide +kernel
theorem dX7_endCycle_29 : decode cX7_endCycle 29 = .ok (.iconst 3, 1) := by decide +kernel
theorem dX7_endCycle_30 : decode cX7_endCycle 30 = .ok (.if_icmp .ne 18, 3) := by decide +kernel
theorem dX7_endCycle_33 : decode cX7_endCycle 33 = .ok (.aload_n 0, 1) := by decide +kernel
theorem dX7_endCycle_34 : decode cX7_endCycle 34 = .ok (.dup, 1) := by decide +kernel
theorem dX7_endCycle_35 : decode cX7_endCycle 35 = .ok (.getfield 15, 3) := by decide +kernel
theorem dX7_endCycle_38 : decode cX7_endCycle 38 = .ok (.iconst 1, 1) := by decide +kernel
theorem dX7_endCycle_39 : decode cX7_endCycle 39 = .ok (.isub, 1) := by decide +kernel
theorem dX7_endCycle_40 : decode cX7_endCycle 40 = .ok (.putfield 15, 3) := by decide +kernel
theorem dX7_endCycle_43 : decode cX7_endCycle 43 = .ok (.aload_n 0, 1) := by decide +kernel
theorem dX7_endCycle_44 : decode cX7_endCycle 44 = .ok (.iconst 0, 1) := by decide +kernel
theorem dX7_endCycle_45 : decode cX7_endCycle 45 = .ok (.putfield 18, 3) := by decide +kernel
theorem dX7_endCycle_48 : decode cX7_endCycle 48 = .ok (.return_, 1) := by decide +kernel
theorem dX8_init_0 : decode cX8_init 0 = .ok (.aload_n 0, 1) := by decide +kernel
theorem dX8_init_1 : decode cX8_init 1 = .ok (.invokespecial 3, 3) := by decide +kernel
theorem dX8_init_4 : decode cX8_init 4 = .ok (.aload_n 0, 1) := by decide +kernel
theorem dX8_init_5 : decode cX8_init 5 = .ok (.iconst 5, 1) := by decide +kernel
theorem dX8_init_6 : decode cX8_init 6 = .ok (.iconst 5, 1) := by decide +kernel
theorem dX8_init_7 : decode cX8_init 7 = .ok (.multianewarray 11 2, 4) := by decide +kernel
theorem dX8_init_11 : decode cX8_init 11 = .ok (.putfield 13, 3) := by decide +kernel
theorem dX8_init_14 : decode cX8_init 14 = .ok (.aload_n 0, 1) := by decide +kernel
theorem dX8_init_15 : decode cX8_init 15 = .ok (.iconst 5, 1) := by decide +kernel
theorem dX8_init_16 : decode cX8_init 16 = .ok (.iconst 5, 1) := by decide +kernel
theorem dX8_init_17 : decode cX8_init 17 = .ok (.multianewarray 11 2, 4) := by decide +kernel
theorem dX8_init_21 : decode cX8_init 21 = .ok (.putfield 16, 3) := by decide +kernel
theorem dX8_init_24 : decode cX8_init 24 = .ok (.aload_n 0, 1) := by decide +kernel
theorem dX8_init_25 : decode cX8_init 25 = .ok (.new 19, 3) := by decide +kernel
theorem dX8_init_28 : decode cX8_init 28 = .ok (.dup, 1) := by decide +kernel
theorem dX8_init_29 : decode cX8_init 29 = .ok (.invokespecial 21, 3) := by decide +kernel
theorem dX8_init_32 : decode cX8_init 32 = .ok (.putfield 22, 3) := by decide +kernel
theorem dX8_init_35 : decode cX8_init 35 = .ok (.return_, 1) := by decide +kernel
theorem dX8_forget_0 : decode cX8_forget 0 = .ok (.iconst 0, 1) := by decide +kernel
theorem dX8_forget_1 : decode cX8_forget 1 = .ok (.istore_n 1, 1) := by decide +kernel
theorem dX8_forget_2 : decode cX8_forget 2 = .ok (.iload_n 1, 1) := by decide +kernel
theorem dX8_forget_3 : decode cX8_forget 3 = .ok (.iconst 5, 1) := by decide +kernel
theorem dX8_forget_4 : decode cX8_forget 4 = .ok (.if_icmp .ge 31, 3) := by decide +kernel
theorem dX8_forget_7 : decode cX8_forget 7 = .ok (.iconst 0, 1) := by decide +kernel
theorem dX8_forget_8 : decode cX8_forget 8 = .ok (.istore_n 2, 1) := by decide +kernel
theorem dX8_forget_9 : decode cX8_forget 9 = .ok (.iload_n 2, 1) := by decide +kernel
theorem dX8_forget_10 : decode cX8_forget 10 = .ok (.iconst 5, 1) := by decide +kernel
theorem dX8_forget_11 : decode cX8_forget 11 = .ok (.if_icmp .ge 18, 3) := by decide +kernel
theorem dX8_forget_14 : decode cX8_forget 14 = .ok (.aload_n 0, 1) := by decide +kernel
theorem dX8_forget_15 : decode cX8_forget 15 = .ok (.getfield 16, 3) := by decide +kernel
theorem dX8_forget_18 : decode cX8_forget 18 = .ok (.iload_n 1, 1) := by decide +kernel
theorem dX8_forget_19 : decode cX8_forget 19 = .ok (.aaload, 1) := by decide +kernel
theorem dX8_forget_20 : decode cX8_forget 20 = .ok (.iload_n 2, 1) := by decide +kernel
theorem dX8_forget_21 : decode cX8_forget 21 = .ok (.iconst (-1), 1) := by decide +kernel
theorem dX8_forget_22 : decode cX8_forget 22 = .ok (.iastore, 1) := by decide +kernel
theorem dX8_forget_23 : decode cX8_forget 23 = .ok (.iinc 2 1, 3) := by decide +kernel
theorem dX8_forget_26 : decode cX8_forget 26 = .ok (.goto (-17), 3) := by decide +kernel
theorem dX8_forget_29 : decode cX8_forget 29 = .ok (.iinc 1 1, 3) := by decide +kernel
theorem dX8_forget_32 : decode cX8_forget 32 = .ok (.goto (-30), 3) := by decide +kernel
theorem dX8_forget_35 : decode cX8_forget 35 = .ok (.return_, 1) := by decide +kernel
theorem dX8_recordsLacking_0 : decode cX8_recordsLacking 0 = .ok (.aload_n 0, 1) := by decide +kernel
theorem dX8_recordsLacking_1 : decode cX8_recordsLacking 1 = .ok (.getfield 22, 3) := by decide +kernel
theorem dX8_recordsLacking_4 : decode cX8_recordsLacking 4 = .ok (.getfield 26, 3) := by decide +kernel
theorem dX8_recordsLacking_7 : decode cX8_recordsLacking 7 = .ok (.aload_n 1, 1) := by decide +kernel
theorem dX8_recordsLacking_8 : decode cX8_recordsLacking 8 = .ok (.invokevirtual 30, 3) := by decide +kernel
theorem dX8_recordsLacking_11 : decode cX8_recordsLacking 11 = .ok (.aload_n 0, 1) := by decide +kernel
theorem dX8_recordsLacking_12 : decode cX8_recordsLacking 12 = .ok (.getfield 22, 3) := by decide +kernel
theorem dX8_recordsLacking_15 : decode cX8_recordsLacking 15 = .ok (.getfield 26, 3) := by decide +kernel
theorem dX8_recordsLacking_18 : decode cX8_recordsLacking 18 = .ok (.iload_n 2, 1) := by decide +kernel
theorem dX8_recordsLacking_19 : decode cX8_recordsLacking 19 = .ok (.invokevirtual 36, 3) := by decide +kernel
theorem dX8_recordsLacking_22 : decode cX8_recordsLacking 22 = .ok (.aload_n 0, 1) := by decide +kernel
theorem dX8_recordsLacking_23 : decode cX8_recordsLacking 23 = .ok (.getfield 22, 3) := by decide +kernel
theorem dX8_recordsLacking_26 : decode cX8_recordsLacking 26 = .ok (.invokevirtual 40, 3) := by decide +kernel
theorem dX8_recordsLacking_29 : decode cX8_recordsLacking 29 = .ok (.ireturn, 1) := by decide +kernel
theorem dX8_recordsWindowed_0 : decode cX8_recordsWindowed 0 = .ok (.aload_n 0, 1) := by decide +kernel
theorem dX8_recordsWindowed_1 : decode cX8_recordsWindowed 1 = .ok (.getfield 22, 3) := by decide +kernel
theorem dX8_recordsWindowed_4 : decode cX8_recordsWindowed 4 = .ok (.getfield 26, 3) := by decide +kernel
theorem dX8_recordsWindowed_7 : decode cX8_recordsWindowed 7 = .ok (.aload_n 1, 1) := by decide +kernel
theorem dX8_recordsWindowed_8 : decode cX8_recordsWindowed 8 = .ok (.invokevirtual 30, 3) := by decide +kernel
theorem dX8_recordsWindowed_11 : decode cX8_recordsWindowed 11 = .ok (.aload_n 0, 1) := by decide +kernel
theorem dX8_recordsWindowed_12 : decode cX8_recordsWindowed 12 = .ok (.getfield 22, 3) := by decide +kernel
theorem dX8_recordsWindowed_15 : decode cX8_recordsWindowed 15 = .ok (.getfield 26, 3) := by decide +kernel
theorem dX8_recordsWindowed_18 : decode cX8_recordsWindowed 18 = .ok (.getfield 44, 3) := by decide +kernel
theorem dX8_recordsWindowed_21 : decode cX8_recordsWindowed 21 = .ok (.iload_n 2, 1) := by decide +kernel
theorem dX8_recordsWindowed_22 : decode cX8_recordsWindowed 22 = .ok (.aaload, 1) := by decide +kernel
theorem dX8_recordsWindowed_23 : decode cX8_recordsWindowed 23 = .ok (.iconst 2, 1) := by decide +kernel
theorem dX8_recordsWindowed_24 : decode cX8_recordsWindowed 24 = .ok (.iload_n 3, 1) := by decide +kernel
theorem dX8_recordsWindowed_25 : decode cX8_recordsWindowed 25 = .ok (.iastore, 1) := by decide +kernel
theorem dX8_recordsWindowed_26 : decode cX8_recordsWindowed 26 = .ok (.aload_n 0, 1) := by decide +kernel
theorem dX8_recordsWindowed_27 : decode cX8_recordsWindowed 27 = .ok (.getfield 22, 3) := by decide +kernel
theorem dX8_recordsWindowed_30 : decode cX8_recordsWindowed 30 = .ok (.getfield 26, 3) := by decide +kernel
theorem dX8_recordsWindowed_33 : decode cX8_recordsWindowed 33 = .ok (.getfield 44, 3) := by decide +kernel
theorem dX8_recordsWindowed_36 : decode cX8_recordsWindowed 36 = .ok (.iload_n 2, 1) := by decide +kernel
theorem dX8_recordsWindowed_37 : decode cX8_recordsWindowed 37 = .ok (.aaload, 1) := by decide +kernel
theorem dX8_recordsWindowed_38 : decode cX8_recordsWindowed 38 = .ok (.iconst 3, 1) := by decide +kernel
theorem dX8_recordsWindowed_39 : decode cX8_recordsWindowed 39 = .ok (.iload 4, 2) := by decide +kernel
theorem dX8_recordsWindowed_41 : decode cX8_recordsWindowed 41 = .ok (.iastore, 1) := by decide +kernel
theorem dX8_recordsWindowed_42 : decode cX8_recordsWindowed 42 = .ok (.aload_n 0, 1) := by decide +kernel
theorem dX8_recordsWindowed_43 : decode cX8_recordsWindowed 43 = .ok (.getfield 22, 3) := by decide +kernel
theorem dX8_recordsWindowed_46 : decode cX8_recordsWindowed 46 = .ok (.invokevirtual 40, 3) := by decide +kernel
theorem dX8_recordsWindowed_49 : decode cX8_recordsWindowed 49 = .ok (.ireturn, 1) := by decide +kernel
theorem dX8_probe_0 : decode cX8_probe 0 = .ok (.aload_n 0, 1) := by decide +kernel
theorem dX8_probe_1 : decode cX8_probe 1 = .ok (.getfield 16, 3) := by decide +kernel
theorem dX8_probe_4 : decode cX8_probe 4 = .ok (.iload_n 3, 1) := by decide +kernel
theorem dX8_probe_5 : decode cX8_probe 5 = .ok (.aaload, 1) := by decide +kernel
theorem dX8_probe_6 : decode cX8_probe 6 = .ok (.iload 4, 2) := by decide +kernel
theorem dX8_probe_8 : decode cX8_probe 8 = .ok (.iaload, 1) := by decide +kernel
theorem dX8_probe_9 : decode cX8_probe 9 = .ok (.iconst (-1), 1) := by decide +kernel
theorem dX8_probe_10 : decode cX8_probe 10 = .ok (.if_icmp .eq 4, 3) := by decide +kernel
theorem dX8_probe_13 : decode cX8_probe 13 = .ok (.return_, 1) := by decide +kernel
theorem dX8_probe_14 : decode cX8_probe 14 = .ok (.aload_n 0, 1) := by decide +kernel
theorem dX8_probe_15 : decode cX8_probe 15 = .ok (.getfield 22, 3) := by decide +kernel
theorem dX8_probe_18 : decode cX8_probe 18 = .ok (.getfield 26, 3) := by decide +kernel
theorem dX8_probe_21 : decode cX8_probe 21 = .ok (.aload_n 1, 1) := by decide +kernel
theorem dX8_probe_22 : decode cX8_probe 22 = .ok (.getfield 26, 3) := by decide +kernel
theorem dX8_probe_25 : decode cX8_probe 25 = .ok (.invokevirtual 30, 3) := by decide +kernel
theorem dX8_probe_28 : decode cX8_probe 28 = .ok (.aload_n 0, 1) := by decide +kernel
theorem dX8_probe_29 : decode cX8_probe 29 = .ok (.getfield 22, 3) := by decide +kernel
theorem dX8_probe_32 : decode cX8_probe 32 = .ok (.getfield 26, 3) := by decide +kernel
theorem dX8_probe_35 : decode cX8_probe 35 = .ok (.dup, 1) := by decide +kernel
theorem dX8_probe_36 : decode cX8_probe 36 = .ok (.getfield 47, 3) := by decide +kernel
theorem dX8_probe_39 : decode cX8_probe 39 = .ok (.iconst 1, 1) := by decide +kernel
theorem dX8_probe_40 : decode cX8_probe 40 = .ok (.iadd, 1) := by decide +kernel
theorem dX8_probe_41 : decode cX8_probe 41 = .ok (.putfield 47, 3) := by decide +kernel
theorem dX8_probe_44 : decode cX8_probe 44 = .ok (.aload_n 0, 1) := by decide +kernel
theorem dX8_probe_45 : decode cX8_probe 45 = .ok (.getfield 22, 3) := by decide +kernel
theorem dX8_probe_48 : decode cX8_probe 48 = .ok (.getfield 26, 3) := by decide +kernel
theorem dX8_probe_51 : decode cX8_probe 51 = .ok (.getfield 51, 3) := by decide +kernel
theorem dX8_probe_54 : decode cX8_probe 54 = .ok (.aload_n 0, 1) := by decide +kernel
theorem dX8_probe_55 : decode cX8_probe 55 = .ok (.getfield 22, 3) := by decide +kernel
theorem dX8_probe_58 : decode cX8_probe 58 = .ok (.getfield 26, 3) := by decide +kernel
theorem dX8_probe_61 : decode cX8_probe 61 = .ok (.getfield 47, 3) := by decide +kernel
theorem dX8_probe_64 : decode cX8_probe 64 = .ok (.iadd, 1) := by decide +kernel
theorem dX8_probe_65 : decode cX8_probe 65 = .ok (.iconst 1, 1) := by decide +kernel
theorem dX8_probe_66 : decode cX8_probe 66 = .ok (.isub, 1) := by decide +kernel
theorem dX8_probe_67 : decode cX8_probe 67 = .ok (.istore 5, 2) := by decide +kernel
theorem dX8_probe_69 : decode cX8_probe 69 = .ok (.iload 4, 2) := by decide +kernel
theorem dX8_probe_71 : decode cX8_probe 71 = .ok (.iconst 4, 1) := by decide +kernel
theorem dX8_probe_72 : decode cX8_probe 72 = .ok (.if_icmp .ne 7, 3) := by decide +kernel
theorem dX8_probe_75 : decode cX8_probe 75 = .ok (.iconst 1, 1) := by decide +kernel
theorem dX8_probe_76 : decode cX8_probe 76 = .ok (.goto 15, 3) := by decide +kernel
theorem dX8_probe_79 : decode cX8_probe 79 = .ok (.aload_n 1, 1) := by decide +kernel
theorem dX8_probe_80 : decode cX8_probe 80 = .ok (.getfield 26, 3) := by decide +kernel
theorem dX8_probe_83 : decode cX8_probe 83 = .ok (.getfield 44, 3) := by decide +kernel
theorem dX8_probe_86 : decode cX8_probe 86 = .ok (.iload_n 3, 1) := by decide +kernel
theorem dX8_probe_87 : decode cX8_probe 87 = .ok (.aaload, 1) := by decide +kernel
theorem dX8_probe_88 : decode cX8_probe 88 = .ok (.bipush 6, 2) := by decide +kernel
theorem dX8_probe_90 : decode cX8_probe 90 = .ok (.iaload, 1) := by decide +kernel
theorem dX8_probe_91 : decode cX8_probe 91 = .ok (.istore 6, 2) := by decide +kernel
theorem dX8_probe_93 : decode cX8_probe 93 = .ok (.aload_n 0, 1) := by decide +kernel
theorem dX8_probe_94 : decode cX8_probe 94 = .ok (.getfield 13, 3) := by decide +kernel
theorem dX8_probe_97 : decode cX8_probe 97 = .ok (.iload_n 3, 1) := by decide +kernel
theorem dX8_probe_98 : decode cX8_probe 98 = .ok (.aaload, 1) := by decide +kernel
theorem dX8_probe_99 : decode cX8_probe 99 = .ok (.iload 4, 2) := by decide +kernel
theorem dX8_probe_101 : decode cX8_probe 101 = .ok (.iconst (-1), 1) := by decide +kernel
theorem dX8_probe_102 : decode cX8_probe 102 = .ok (.iastore, 1) := by decide +kernel
theorem dX8_probe_103 : decode cX8_probe 103 = .ok (.aload_n 0, 1) := by decide +kernel
theorem dX8_probe_104 : decode cX8_probe 104 = .ok (.getfield 16, 3) := by decide +kernel
theorem dX8_probe_107 : decode cX8_probe 107 = .ok (.iload_n 3, 1) := by decide +kernel
theorem dX8_probe_108 : decode cX8_probe 108 = .ok (.aaload, 1) := by decide +kernel
theorem dX8_probe_109 : decode cX8_probe 109 = .ok (.iload 4, 2) := by decide +kernel
theorem dX8_probe_111 : decode cX8_probe 111 = .ok (.iconst 0, 1) := by decide +kernel
theorem dX8_probe_112 : decode cX8_probe 112 = .ok (.iastore, 1) := by decide +kernel
theorem dX8_probe_113 : decode cX8_probe 113 = .ok (.iconst 0, 1) := by decide +kernel
theorem dX8_probe_114 : decode cX8_probe 114 = .ok (.istore 7, 2) := by decide +kernel
theorem dX8_probe_116 : decode cX8_probe 116 = .ok (.iload 7, 2) := by decide +kernel
theorem dX8_probe_118 : decode cX8_probe 118 = .ok (.bipush 50, 2) := by decide +kernel
theorem dX8_probe_120 : decode cX8_probe 120 = .ok (.if_icmp .gt 96, 3) := by decide +kernel
theorem dX8_probe_123 : decode cX8_probe 123 = .ok (.aload_n 1, 1) := by decide +kernel
theorem dX8_probe_124 : decode cX8_probe 124 = .ok (.iload_n 3, 1) := by decide +kernel
theorem dX8_probe_125 : decode cX8_probe 125 = .ok (.iload 7, 2) := by decide +kernel
theorem dX8_probe_127 : decode cX8_probe 127 = .ok (.invokevirtual 54, 3) := by decide +kernel
theorem dX8_probe_130 : decode cX8_probe 130 = .ok (.iconst (-1), 1) := by decide +kernel
theorem dX8_probe_131 : decode cX8_probe 131 = .ok (.if_icmp .eq 85, 3) := by decide +kernel
theorem dX8_probe_134 : decode cX8_probe 134 = .ok (.aload_n 1, 1) := by decide +kernel
theorem dX8_probe_135 : decode cX8_probe 135 = .ok (.iload_n 3, 1) := by decide +kernel
theorem dX8_probe_136 : decode cX8_probe 136 = .ok (.iload 7, 2) := by decide +kernel
theorem dX8_probe_138 : decode cX8_probe 138 = .ok (.invokevirtual 54, 3) := by decide +kernel
theorem dX8_probe_141 : decode cX8_probe 141 = .ok (.istore 8, 2) := by decide +kernel
theorem dX8_probe_143 : decode cX8_probe 143 = .ok (.aload_n 2, 1) := by decide +kernel
theorem dX8_probe_144 : decode cX8_probe 144 = .ok (.iload 8, 2) := by decide +kernel
theorem dX8_probe_146 : decode cX8_probe 146 = .ok (.invokevirtual 58, 3) := by decide +kernel
theorem dX8_probe_149 : decode cX8_probe 149 = .ok (.iconst 0, 1) := by decide +kernel
theorem dX8_probe_150 : decode cX8_probe 150 = .ok (.istore 9, 2) := by decide +kernel
theorem dX8_probe_152 : decode cX8_probe 152 = .ok (.iload 9, 2) := by decide +kernel
theorem dX8_probe_154 : decode cX8_probe 154 = .ok (.iload 6, 2) := by decide +kernel
theorem dX8_probe_156 : decode cX8_probe 156 = .ok (.if_icmp .ge 54, 3) := by decide +kernel
theorem dX8_probe_159 : decode cX8_probe 159 = .ok (.aload_n 0, 1) := by decide +kernel
theorem dX8_probe_160 : decode cX8_probe 160 = .ok (.getfield 22, 3) := by decide +kernel
theorem dX8_probe_163 : decode cX8_probe 163 = .ok (.getfield 26, 3) := by decide +kernel
theorem dX8_probe_166 : decode cX8_probe 166 = .ok (.iload 5, 2) := by decide +kernel
theorem dX8_probe_168 : decode cX8_probe 168 = .ok (.iload 4, 2) := by decide +kernel
theorem dX8_probe_170 : decode cX8_probe 170 = .ok (.iload_n 3, 1) := by decide +kernel
theorem dX8_probe_171 : decode cX8_probe 171 = .ok (.iload 7, 2) := by decide +kernel
theorem dX8_probe_173 : decode cX8_probe 173 = .ok (.iload 9, 2) := by decide +kernel
theorem dX8_probe_175 : decode cX8_probe 175 = .ok (.iconst 1, 1) := by decide +kernel
theorem dX8_probe_176 : decode cX8_probe 176 = .ok (.invokevirtual 61, 3) := by decide +kernel
theorem dX8_probe_179 : decode cX8_probe 179 = .ok (.aload_n 0, 1) := by decide +kernel
theorem dX8_probe_180 : decode cX8_probe 180 = .ok (.getfield 22, 3) := by decide +kernel
theorem dX8_probe_183 : decode cX8_probe 183 = .ok (.aload_n 2, 1) := by decide +kernel
theorem dX8_probe_184 : decode cX8_probe 184 = .ok (.invokevirtual 65, 3) := by decide +kernel
theorem dX8_probe_187 : decode cX8_probe 187 = .ok (.aload_n 0, 1) := by decide +kernel
theorem dX8_probe_188 : decode cX8_probe 188 = .ok (.iload_n 3, 1) := by decide +kernel
theorem dX8_probe_189 : decode cX8_probe 189 = .ok (.iload 4, 2) := by decide +kernel
theorem dX8_probe_191 : decode cX8_probe 191 = .ok (.aload_n 0, 1) := by decide +kernel
theorem dX8_probe_192 : decode cX8_probe 192 = .ok (.getfield 22, 3) := by decide +kernel
theorem dX8_probe_195 : decode cX8_probe 195 = .ok (.iload_n 3, 1) := by decide +kernel
theorem dX8_probe_196 : decode cX8_probe 196 = .ok (.iload 8, 2) := by decide +kernel
theorem dX8_probe_198 : decode cX8_probe 198 = .ok (.invokevirtual 69, 3) := by decide +kernel
theorem dX8_probe_201 : decode cX8_probe 201 = .ok (.invokevirtual 72, 3) := by decide +kernel
theorem dX8_probe_204 : decode cX8_probe 204 = .ok (.iinc 9 1, 3) := by decide +kernel
theorem dX8_probe_207 : decode cX8_probe 207 = .ok (.goto (-55), 3) := by decide +kernel
theorem dX8_probe_210 : decode cX8_probe 210 = .ok (.iinc 7 1, 3) := by decide +kernel
theorem dX8_probe_213 : decode cX8_probe 213 = .ok (.goto (-97), 3) := by decide +kernel
theorem dX8_probe_216 : decode cX8_probe 216 = .ok (.return_, 1) := by decide +kernel
theorem dX8_noteDelay_0 : decode cX8_noteDelay 0 = .ok (.iload_n 3, 1) := by decide +kernel
theorem dX8_noteDelay_1 : decode cX8_noteDelay 1 = .ok (.iconst (-1), 1) := by decide +kernel
theorem dX8_noteDelay_2 : decode cX8_noteDelay 2 = .ok (.if_icmp .ne 15, 3) := by decide +kernel
theorem dX8_noteDelay_5 : decode cX8_noteDelay 5 = .ok (.aload_n 0, 1) := by decide +kernel
theorem dX8_noteDelay_6 : decode cX8_noteDelay 6 = .ok (.getfield 16, 3) := by decide +kernel
theorem dX8_noteDelay_9 : decode cX8_noteDelay 9 = .ok (.iload_n 1, 1) := by decide +kernel
theorem dX8_noteDelay_10 : decode cX8_noteDelay 10 = .ok (.aaload, 1) := by decide +kernel
theorem dX8_noteDelay_11 : decode cX8_noteDelay 11 = .ok (.iload_n 2, 1) := by decide +kernel
theorem dX8_noteDelay_12 : decode cX8_noteDelay 12 = .ok (.dup2, 1) := by decide +kernel
theorem dX8_noteDelay_13 : decode cX8_noteDelay 13 = .ok (.iaload, 1) := by decide +kernel
theorem dX8_noteDelay_14 : decode cX8_noteDelay 14 = .ok (.iconst 1, 1) := by decide +kernel
theorem dX8_noteDelay_15 : decode cX8_noteDelay 15 = .ok (.iadd, 1) := by decide +kernel
theorem dX8_noteDelay_16 : decode cX8_noteDelay 16 = .ok (.iastore, 1) := by decide +kernel
theorem dX8_noteDelay_17 : decode cX8_noteDelay 17 = .ok (.aload_n 0, 1) := by decide +kernel
theorem dX8_noteDelay_18 : decode cX8_noteDelay 18 = .ok (.getfield 13, 3) := by decide +kernel
theorem dX8_noteDelay_21 : decode cX8_noteDelay 21 = .ok (.iload_n 1, 1) := by decide +kernel
theorem dX8_noteDelay_22 : decode cX8_noteDelay 22 = .ok (.aaload, 1) := by decide +kernel
theorem dX8_noteDelay_23 : decode cX8_noteDelay 23 = .ok (.iload_n 2, 1) := by decide +kernel
theorem dX8_noteDelay_24 : decode cX8_noteDelay 24 = .ok (.aload_n 0, 1) := by decide +kernel
theorem dX8_noteDelay_25 : decode cX8_noteDelay 25 = .ok (.getfield 13, 3) := by decide +kernel
theorem dX8_noteDelay_28 : decode cX8_noteDelay 28 = .ok (.iload_n 1, 1) := by decide +kernel
theorem dX8_noteDelay_29 : decode cX8_noteDelay 29 = .ok (.aaload, 1) := by decide +kernel
theorem dX8_noteDelay_30 : decode cX8_noteDelay 30 = .ok (.iload_n 2, 1) := by decide +kernel
theorem dX8_noteDelay_31 : decode cX8_noteDelay 31 = .ok (.iaload, 1) := by decide +kernel
theorem dX8_noteDelay_32 : decode cX8_noteDelay 32 = .ok (.iload_n 3, 1) := by decide +kernel
theorem dX8_noteDelay_33 : decode cX8_noteDelay 33 = .ok (.invokestatic 76, 3) := by decide +kernel
theorem dX8_noteDelay_36 : decode cX8_noteDelay 36 = .ok (.iastore, 1) := by decide +kernel
theorem dX8_noteDelay_37 : decode cX8_noteDelay 37 = .ok (.return_, 1) := by decide +kernel
theorem dX9_init_0 : decode cX9_init 0 = .ok (.aload_n 0, 1) := by decide +kernel
theorem dX9_init_1 : decode cX9_init 1 = .ok (.invokespecial 1, 3) := by decide +kernel
theorem dX9_init_4 : decode cX9_init 4 = .ok (.aload_n 0, 1) := by decide +kernel
theorem dX9_init_5 : decode cX9_init 5 = .ok (.new 7, 3) := by decide +kernel
theorem dX9_init_8 : decode cX9_init 8 = .ok (.dup, 1) := by decide +kernel
theorem dX9_init_9 : decode cX9_init 9 = .ok (.invokespecial 9, 3) := by decide +kernel
theorem dX9_init_12 : decode cX9_init 12 = .ok (.putfield 10, 3) := by decide +kernel
theorem dX9_init_15 : decode cX9_init 15 = .ok (.aload_n 0, 1) := by decide +kernel
theorem dX9_init_16 : decode cX9_init 16 = .ok (.new 16, 3) := by decide +kernel
theorem dX9_init_19 : decode cX9_init 19 = .ok (.dup, 1) := by decide +kernel
theorem dX9_init_20 : decode cX9_init 20 = .ok (.invokespecial 18, 3) := by decide +kernel
theorem dX9_init_23 : decode cX9_init 23 = .ok (.putfield 19, 3) := by decide +kernel
theorem dX9_init_26 : decode cX9_init 26 = .ok (.aload_n 0, 1) := by decide +kernel
theorem dX9_init_27 : decode cX9_init 27 = .ok (.iconst 3, 1) := by decide +kernel
theorem dX9_init_28 : decode cX9_init 28 = .ok (.anewarray 16, 3) := by decide +kernel
theorem dX9_init_31 : decode cX9_init 31 = .ok (.putfield 23, 3) := by decide +kernel
theorem dX9_init_34 : decode cX9_init 34 = .ok (.aload_n 0, 1) := by decide +kernel
theorem dX9_init_35 : decode cX9_init 35 = .ok (.iconst 3, 1) := by decide +kernel
theorem dX9_init_36 : decode cX9_init 36 = .ok (.newarray .boolean, 2) := by decide +kernel
theorem dX9_init_38 : decode cX9_init 38 = .ok (.putfield 27, 3) := by decide +kernel
theorem dX9_init_41 : decode cX9_init 41 = .ok (.aload_n 0, 1) := by decide +kernel
theorem dX9_init_42 : decode cX9_init 42 = .ok (.new 31, 3) := by decide +kernel
theorem dX9_init_45 : decode cX9_init 45 = .ok (.dup, 1) := by decide +kernel
theorem dX9_init_46 : decode cX9_init 46 = .ok (.invokespecial 33, 3) := by decide +kernel
theorem dX9_init_49 : decode cX9_init 49 = .ok (.putfield 34, 3) := by decide +kernel
theorem dX9_init_52 : decode cX9_init 52 = .ok (.aload_n 0, 1) := by decide +kernel
theorem dX9_init_53 : decode cX9_init 53 = .ok (.new 38, 3) := by decide +kernel
theorem dX9_init_56 : decode cX9_init 56 = .ok (.dup, 1) := by decide +kernel
theorem dX9_init_57 : decode cX9_init 57 = .ok (.invokespecial 40, 3) := by decide +kernel
theorem dX9_init_60 : decode cX9_init 60 = .ok (.putfield 41, 3) := by decide +kernel
theorem dX9_init_63 : decode cX9_init 63 = .ok (.aload_n 0, 1) := by decide +kernel
theorem dX9_init_64 : decode cX9_init 64 = .ok (.new 45, 3) := by decide +kernel
theorem dX9_init_67 : decode cX9_init 67 = .ok (.dup, 1) := by decide +kernel
theorem dX9_init_68 : decode cX9_init 68 = .ok (.invokespecial 47, 3) := by decide +kernel
theorem dX9_init_71 : decode cX9_init 71 = .ok (.putfield 48, 3) := by decide +kernel
theorem dX9_init_74 : decode cX9_init 74 = .ok (.aload_n 0, 1) := by decide +kernel
theorem dX9_init_75 : decode cX9_init 75 = .ok (.new 45, 3) := by decide +kernel
theorem dX9_init_78 : decode cX9_init 78 = .ok (.dup, 1) := by decide +kernel
theorem dX9_init_79 : decode cX9_init 79 = .ok (.invokespecial 47, 3) := by decide +kernel
theorem dX9_init_82 : decode cX9_init 82 = .ok (.putfield 52, 3) := by decide +kernel
theorem dX9_init_85 : decode cX9_init 85 = .ok (.aload_n 0, 1) := by decide +kernel
theorem dX9_init_86 : decode cX9_init 86 = .ok (.new 55, 3) := by decide +kernel
theorem dX9_init_89 : decode cX9_init 89 = .ok (.dup, 1) := by decide +kernel
theorem dX9_init_90 : decode cX9_init 90 = .ok (.invokespecial 57, 3) := by decide +kernel
theorem dX9_init_93 : decode cX9_init 93 = .ok (.putfield 58, 3) := by decide +kernel
theorem dX9_init_96 : decode cX9_init 96 = .ok (.iconst 0, 1) := by decide +kernel
theorem dX9_init_97 : decode cX9_init 97 = .ok (.istore_n 1, 1) := by decide +kernel
theorem dX9_init_98 : decode cX9_init 98 = .ok (.iload_n 1, 1) := by decide +kernel
theorem dX9_init_99 : decode cX9_init 99 = .ok (.iconst 3, 1) := by decide +kernel
theorem dX9_init_100 : decode cX9_init 100 = .ok (.if_icmp .ge 22, 3) := by decide +kernel
theorem dX9_init_103 : decode cX9_init 103 = .ok (.aload_n 0, 1) := by decide +kernel
theorem dX9_init_104 : decode cX9_init 104 = .ok (.getfield 23, 3) := by decide +kernel
theorem dX9_init_107 : decode cX9_init 107 = .ok (.iload_n 1, 1) := by decide +kernel
theorem dX9_init_108 : decode cX9_init 108 = .ok (.new 16, 3) := by decide +kernel
theorem dX9_init_111 : decode cX9_init 111 = .ok (.dup, 1) := by decide +kernel
theorem dX9_init_112 : decode cX9_init 112 = .ok (.invokespecial 18, 3) := by decide +kernel
theorem dX9_init_115 : decode cX9_init 115 = .ok (.aastore, 1) := by decide +kernel
theorem dX9_init_116 : decode cX9_init 116 = .ok (.iinc 1 1, 3) := by decide +kernel
theorem dX9_init_119 : decode cX9_init 119 = .ok (.goto (-21), 3) := by decide +kernel
theorem dX9_init_122 : decode cX9_init 122 = .ok (.return_, 1) := by decide +kernel
theorem dX9_feed_0 : decode cX9_feed 0 = .ok (.aload_n 0, 1) := by decide +kernel
theorem dX9_feed_1 : decode cX9_feed 1 = .ok (.getfield 10, 3) := by decide +kernel
theorem dX9_feed_4 : decode cX9_feed 4 = .ok (.getfield 62, 3) := by decide +kernel
theorem dX9_feed_7 : decode cX9_feed 7 = .ok (.iload_n 1, 1) := by decide +kernel
theorem dX9_feed_8 : decode cX9_feed 8 = .ok (.iload_n 2, 1) := by decide +kernel
theorem dX9_feed_9 : decode cX9_feed 9 = .ok (.iload_n 3, 1) := by decide +kernel
theorem dX9_feed_10 : decode cX9_feed 10 = .ok (.iload 4, 2) := by decide +kernel
theorem dX9_feed_12 : decode cX9_feed 12 = .ok (.iload 5, 2) := by decide +kernel
theorem dX9_feed_14 : decode cX9_feed 14 = .ok (.invokevirtual 66, 3) := by decide +kernel
theorem dX9_feed_17 : decode cX9_feed 17 = .ok (.ireturn, 1) := by decide +kernel
theorem dX9_end_0 : decode cX9_end 0 = .ok (.aload_n 0, 1) := by decide +kernel
theorem dX9_end_1 : decode cX9_end 1 = .ok (.getfield 10, 3) := by decide +kernel
theorem dX9_end_4 : decode cX9_end 4 = .ok (.getfield 62, 3) := by decide +kernel
theorem dX9_end_7 : decode cX9_end 7 = .ok (.iload_n 1, 1) := by decide +kernel
theorem dX9_end_8 : decode cX9_end 8 = .ok (.invokevirtual 72, 3) := by decide +kernel
theorem dX9_end_11 : decode cX9_end 11 = .ok (.ireturn, 1) := by decide +kernel
theorem dX9_board_0 : decode cX9_board 0 = .ok (.aload_n 0, 1) := by decide +kernel
theorem dX9_board_1 : decode cX9_board 1 = .ok (.getfield 10, 3) := by decide +kernel
theorem dX9_board_4 : decode cX9_board 4 = .ok (.invokevirtual 76, 3) := by decide +kernel
theorem dX9_board_7 : decode cX9_board 7 = .ok (.istore_n 1, 1) := by decide +kernel
theorem dX9_board_8 : decode cX9_board 8 = .ok (.aload_n 0, 1) := by decide +kernel
theorem dX9_board_9 : decode cX9_board 9 = .ok (.getfield 10, 3) := by decide +kernel
theorem dX9_board_12 : decode cX9_board 12 = .ok (.getfield 62, 3) := by decide +kernel
theorem dX9_board_15 : decode cX9_board 15 = .ok (.iconst 0, 1) := by decide +kernel
theorem dX9_board_16 : decode cX9_board 16 = .ok (.invokevirtual 72, 3) := by decide +kernel
theorem dX9_board_19 : decode cX9_board 19 = .ok (.pop, 1) := by decide +kernel
theorem dX9_board_20 : decode cX9_board 20 = .ok (.iload_n 1, 1) := by decide +kernel
theorem dX9_board_21 : decode cX9_board 21 = .ok (.ifCond .ne 6, 3) := by decide +kernel
theorem dX9_board_24 : decode cX9_board 24 = .ok (.bipush (-4), 2) := by decide +kernel
theorem dX9_board_26 : decode cX9_board 26 = .ok (.ireturn, 1) := by decide +kernel
theorem dX9_board_27 : decode cX9_board 27 = .ok (.aload_n 0, 1) := by decide +kernel
theorem dX9_board_28 : decode cX9_board 28 = .ok (.getfield 19, 3) := by decide +kernel
theorem dX9_board_31 : decode cX9_board 31 = .ok (.aload_n 0, 1) := by decide +kernel
theorem dX9_board_32 : decode cX9_board 32 = .ok (.getfield 10, 3) := by decide +kernel
theorem dX9_board_35 : decode cX9_board 35 = .ok (.getfield 80, 3) := by decide +kernel
theorem dX9_board_38 : decode cX9_board 38 = .ok (.invokevirtual 83, 3) := by decide +kernel
theorem dX9_board_41 : decode cX9_board 41 = .ok (.aload_n 0, 1) := by decide +kernel
theorem dX9_board_42 : decode cX9_board 42 = .ok (.invokevirtual 87, 3) := by decide +kernel
theorem dX9_board_45 : decode cX9_board 45 = .ok (.aload_n 0, 1) := by decide +kernel
theorem dX9_board_46 : decode cX9_board 46 = .ok (.getfield 19, 3) := by decide +kernel
theorem dX9_board_49 : decode cX9_board 49 = .ok (.getfield 90, 3) := by decide +kernel
theorem dX9_board_52 : decode cX9_board 52 = .ok (.ireturn, 1) := by decide +kernel
theorem dX9_fault_0 : decode cX9_fault 0 = .ok (.iload_n 1, 1) := by decide +kernel
theorem dX9_fault_1 : decode cX9_fault 1 = .ok (.ifCond .ne 11, 3) := by decide +kernel
theorem dX9_fault_4 : decode cX9_fault 4 = .ok (.aload_n 0, 1) := by decide +kernel
theorem dX9_fault_5 : decode cX9_fault 5 = .ok (.getfield 10, 3) := by decide +kernel
theorem dX9_fault_8 : decode cX9_fault 8 = .ok (.getfield 94, 3) := by decide +kernel
theorem dX9_fault_11 : decode cX9_fault 11 = .ok (.ireturn, 1) := by decide +kernel
theorem dX9_fault_12 : decode cX9_fault 12 = .ok (.iload_n 1, 1) := by decide +kernel
theorem dX9_fault_13 : decode cX9_fault 13 = .ok (.iconst 1, 1) := by decide +kernel
theorem dX9_fault_14 : decode cX9_fault 14 = .ok (.if_icmp .ne 13, 3) := by decide +kernel
theorem dX9_fault_17 : decode cX9_fault 17 = .ok (.aload_n 0, 1) := by decide +kernel
theorem dX9_fault_18 : decode cX9_fault 18 = .ok (.getfield 10, 3) := by decide +kernel
theorem dX9_fault_21 : decode cX9_fault 21 = .ok (.getfield 97, 3) := by decide +kernel
theorem dX9_fault_24 : decode cX9_fault 24 = .ok (.goto 4, 3) := by decide +kernel
theorem dX9_fault_27 : decode cX9_fault 27 = .ok (.iconst (-1), 1) := by decide +kernel
theorem dX9_fault_28 : decode cX9_fault 28 = .ok (.ireturn, 1) := by decide +kernel
theorem dX9_task_0 : decode cX9_task 0 = .ok (.aload_n 0, 1) := by decide +kernel
theorem dX9_task_1 : decode cX9_task 1 = .ok (.getfield 19, 3) := by decide +kernel
theorem dX9_task_4 : decode cX9_task 4 = .ok (.iload_n 1, 1) := by decide +kernel
theorem dX9_task_5 : decode cX9_task 5 = .ok (.invokevirtual 100, 3) := by decide +kernel
theorem dX9_task_8 : decode cX9_task 8 = .ok (.ifCond .eq 13, 3) := by decide +kernel
theorem dX9_task_11 : decode cX9_task 11 = .ok (.iload_n 2, 1) := by decide +kernel
theorem dX9_task_12 : decode cX9_task 12 = .ok (.ifCond .lt 9, 3) := by decide +kernel
theorem dX9_task_15 : decode cX9_task 15 = .ok (.iload_n 2, 1) := by decide +kernel
theorem dX9_task_16 : decode cX9_task 16 = .ok (.bipush 7, 2) := by decide +kernel
theorem dX9_task_18 : decode cX9_task 18 = .ok (.if_icmp .lt 6, 3) := by decide +kernel
theorem dX9_task_21 : decode cX9_task 21 = .ok (.bipush (-2), 2) := by decide +kernel
theorem dX9_task_23 : decode cX9_task 23 = .ok (.ireturn, 1) := by decide +kernel
theorem dX9_task_24 : decode cX9_task 24 = .ok (.aload_n 0, 1) := by decide +kernel
theorem dX9_task_25 : decode cX9_task 25 = .ok (.getfield 19, 3) := by decide +kernel
theorem dX9_task_28 : decode cX9_task 28 = .ok (.getfield 104, 3) := by decide +kernel
theorem dX9_task_31 : decode cX9_task 31 = .ok (.iload_n 1, 1) := by decide +kernel
theorem dX9_task_32 : decode cX9_task 32 = .ok (.aaload, 1) := by decide +kernel
theorem dX9_task_33 : decode cX9_task 33 = .ok (.iload_n 2, 1) := by decide +kernel
theorem dX9_task_34 : decode cX9_task 34 = .ok (.iaload, 1) := by decide +kernel
theorem dX9_task_35 : decode cX9_task 35 = .ok (.ireturn, 1) := by decide +kernel
theorem dX9_node_0 : decode cX9_node 0 = .ok (.aload_n 0, 1) := by decide +kernel
theorem dX9_node_1 : decode cX9_node 1 = .ok (.getfield 19, 3) := by decide +kernel
theorem dX9_node_4 : decode cX9_node 4 = .ok (.iload_n 1, 1) := by decide +kernel
theorem dX9_node_5 : decode cX9_node 5 = .ok (.iload_n 2, 1) := by decide +kernel
theorem dX9_node_6 : decode cX9_node 6 = .ok (.invokevirtual 108, 3) := by decide +kernel
theorem dX9_node_9 : decode cX9_node 9 = .ok (.ifCond .eq 12, 3) := by decide +kernel
theorem dX9_node_12 : decode cX9_node 12 = .ok (.iload_n 3, 1) := by decide +kernel
theorem dX9_node_13 : decode cX9_node 13 = .ok (.ifCond .lt 8, 3) := by decide +kernel
theorem dX9_node_16 : decode cX9_node 16 = .ok (.iload_n 3, 1) := by decide +kernel
theorem dX9_node_17 : decode cX9_node 17 = .ok (.iconst 1, 1) := by decide +kernel
theorem dX9_node_18 : decode cX9_node 18 = .ok (.if_icmp .le 6, 3) := by decide +kernel
theorem dX9_node_21 : decode cX9_node 21 = .ok (.bipush (-2), 2) := by decide +kernel
theorem dX9_node_23 : decode cX9_node 23 = .ok (.ireturn, 1) := by decide +kernel
theorem dX9_node_24 : decode cX9_node 24 = .ok (.iload_n 3, 1) := by decide +kernel
theorem dX9_node_25 : decode cX9_node 25 = .ok (.ifCond .ne 17, 3) := by decide +kernel
theorem dX9_node_28 : decode cX9_node 28 = .ok (.aload_n 0, 1) := by decide +kernel
theorem dX9_node_29 : decode cX9_node 29 = .ok (.getfield 19, 3) := by decide +kernel
theorem dX9_node_32 : decode cX9_node 32 = .ok (.getfield 112, 3) := by decide +kernel
theorem dX9_node_35 : decode cX9_node 35 = .ok (.iload_n 1, 1) := by decide +kernel
theorem dX9_node_36 : decode cX9_node 36 = .ok (.aaload, 1) := by decide +kernel
theorem dX9_node_37 : decode cX9_node 37 = .ok (.iload_n 2, 1) := by decide +kernel
theorem dX9_node_38 : decode cX9_node 38 = .ok (.iaload, 1) := by decide +kernel
theorem dX9_node_39 : decode cX9_node 39 = .ok (.goto 14, 3) := by decide +kernel
theorem dX9_node_42 : decode cX9_node 42 = .ok (.aload_n 0, 1) := by decide +kernel
theorem dX9_node_43 : decode cX9_node 43 = .ok (.getfield 19, 3) := by decide +kernel
theorem dX9_node_46 : decode cX9_node 46 = .ok (.getfield 115, 3) := by decide +kernel
theorem dX9_node_49 : decode cX9_node 49 = .ok (.iload_n 1, 1) := by decide +kernel
theorem dX9_node_50 : decode cX9_node 50 = .ok (.aaload, 1) := by decide +kernel
theorem dX9_node_51 : decode cX9_node 51 = .ok (.iload_n 2, 1) := by decide +kernel
theorem dX9_node_52 : decode cX9_node 52 = .ok (.iaload, 1) := by decide +kernel
theorem dX9_node_53 : decode cX9_node 53 = .ok (.ireturn, 1) := by decide +kernel
theorem dX9_watcher_0 : decode cX9_watcher 0 = .ok (.aload_n 0, 1) := by decide +kernel
theorem dX9_watcher_1 : decode cX9_watcher 1 = .ok (.getfield 19, 3) := by decide +kernel
theorem dX9_watcher_4 : decode cX9_watcher 4 = .ok (.iload_n 1, 1) := by decide +kernel
theorem dX9_watcher_5 : decode cX9_watcher 5 = .ok (.invokevirtual 118, 3) := by decide +kernel
theorem dX9_watcher_8 : decode cX9_watcher 8 = .ok (.ifCond .eq 15, 3) := by decide +kernel
theorem dX9_watcher_11 : decode cX9_watcher 11 = .ok (.aload_n 0, 1) := by decide +kernel
theorem dX9_watcher_12 : decode cX9_watcher 12 = .ok (.getfield 19, 3) := by decide +kernel
theorem dX9_watcher_15 : decode cX9_watcher 15 = .ok (.getfield 121, 3) := by decide +kernel
theorem dX9_watcher_18 : decode cX9_watcher 18 = .ok (.iload_n 1, 1) := by decide +kernel
theorem dX9_watcher_19 : decode cX9_watcher 19 = .ok (.iaload, 1) := by decide +kernel
theorem dX9_watcher_20 : decode cX9_watcher 20 = .ok (.goto 5, 3) := by decide +kernel
theorem dX9_watcher_23 : decode cX9_watcher 23 = .ok (.bipush (-2), 2) := by decide +kernel
theorem dX9_watcher_25 : decode cX9_watcher 25 = .ok (.ireturn, 1) := by decide +kernel
theorem dX9_injection_0 : decode cX9_injection 0 = .ok (.aload_n 0, 1) := by decide +kernel
theorem dX9_injection_1 : decode cX9_injection 1 = .ok (.getfield 19, 3) := by decide +kernel
theorem dX9_injection_4 : decode cX9_injection 4 = .ok (.iload_n 1, 1) := by decide +kernel
theorem dX9_injection_5 : decode cX9_injection 5 = .ok (.invokevirtual 125, 3) := by decide +kernel
theorem dX9_injection_8 : decode cX9_injection 8 = .ok (.ifCond .eq 12, 3) := by decide +kernel
theorem dX9_injection_11 : decode cX9_injection 11 = .ok (.iload_n 2, 1) := by decide +kernel
theorem dX9_injection_12 : decode cX9_injection 12 = .ok (.ifCond .lt 8, 3) := by decide +kernel
theorem dX9_injection_15 : decode cX9_injection 15 = .ok (.iload_n 2, 1) := by decide +kernel
theorem dX9_injection_16 : decode cX9_injection 16 = .ok (.iconst 5, 1) := by decide +kernel
theorem dX9_injection_17 : decode cX9_injection 17 = .ok (.if_icmp .lt 6, 3) := by decide +kernel
theorem dX9_injection_20 : decode cX9_injection 20 = .ok (.bipush (-2), 2) := by decide +kernel
theorem dX9_injection_22 : decode cX9_injection 22 = .ok (.ireturn, 1) := by decide +kernel
theorem dX9_injection_23 : decode cX9_injection 23 = .ok (.aload_n 0, 1) := by decide +kernel
theorem dX9_injection_24 : decode cX9_injection 24 = .ok (.getfield 19, 3) := by decide +kernel
theorem dX9_injection_27 : decode cX9_injection 27 = .ok (.getfield 128, 3) := by decide +kernel
theorem dX9_injection_30 : decode cX9_injection 30 = .ok (.iload_n 1, 1) := by decide +kernel
theorem dX9_injection_31 : decode cX9_injection 31 = .ok (.aaload, 1) := by decide +kernel
theorem dX9_injection_32 : decode cX9_injection 32 = .ok (.iload_n 2, 1) := by decide +kernel
theorem dX9_injection_33 : decode cX9_injection 33 = .ok (.iaload, 1) := by decide +kernel
theorem dX9_injection_34 : decode cX9_injection 34 = .ok (.ireturn, 1) := by decide +kernel
theorem dX9_cost_0 : decode cX9_cost 0 = .ok (.aload_n 0, 1) := by decide +kernel
theorem dX9_cost_1 : decode cX9_cost 1 = .ok (.getfield 19, 3) := by decide +kernel
theorem dX9_cost_4 : decode cX9_cost 4 = .ok (.iload_n 1, 1) := by decide +kernel
theorem dX9_cost_5 : decode cX9_cost 5 = .ok (.invokevirtual 100, 3) := by decide +kernel
theorem dX9_cost_8 : decode cX9_cost 8 = .ok (.ifCond .eq 12, 3) := by decide +kernel
theorem dX9_cost_11 : decode cX9_cost 11 = .ok (.iload_n 2, 1) := by decide +kernel
theorem dX9_cost_12 : decode cX9_cost 12 = .ok (.ifCond .lt 8, 3) := by decide +kernel
theorem dX9_cost_15 : decode cX9_cost 15 = .ok (.iload_n 2, 1) := by decide +kernel
theorem dX9_cost_16 : decode cX9_cost 16 = .ok (.iconst 1, 1) := by decide +kernel
theorem dX9_cost_17 : decode cX9_cost 17 = .ok (.if_icmp .le 6, 3) := by decide +kernel
theorem dX9_cost_20 : decode cX9_cost 20 = .ok (.bipush (-2), 2) := by decide +kernel
theorem dX9_cost_22 : decode cX9_cost 22 = .ok (.ireturn, 1) := by decide +kernel
theorem dX9_cost_23 : decode cX9_cost 23 = .ok (.aload_n 0, 1) := by decide +kernel
theorem dX9_cost_24 : decode cX9_cost 24 = .ok (.getfield 19, 3) := by decide +kernel
theorem dX9_cost_27 : decode cX9_cost 27 = .ok (.getfield 131, 3) := by decide +kernel
theorem dX9_cost_30 : decode cX9_cost 30 = .ok (.iload_n 1, 1) := by decide +kernel
theorem dX9_cost_31 : decode cX9_cost 31 = .ok (.aaload, 1) := by decide +kernel
theorem dX9_cost_32 : decode cX9_cost 32 = .ok (.iload_n 2, 1) := by decide +kernel
theorem dX9_cost_33 : decode cX9_cost 33 = .ok (.iaload, 1) := by decide +kernel
theorem dX9_cost_34 : decode cX9_cost 34 = .ok (.ireturn, 1) := by decide +kernel
theorem dX9_ways_0 : decode cX9_ways 0 = .ok (.aload_n 0, 1) := by decide +kernel
theorem dX9_ways_1 : decode cX9_ways 1 = .ok (.getfield 19, 3) := by decide +kernel
theorem dX9_ways_4 : decode cX9_ways 4 = .ok (.iload_n 1, 1) := by decide +kernel
theorem dX9_ways_5 : decode cX9_ways 5 = .ok (.invokevirtual 100, 3) := by decide +kernel
theorem dX9_ways_8 : decode cX9_ways 8 = .ok (.ifCond .eq 18, 3) := by decide +kernel
theorem dX9_ways_11 : decode cX9_ways 11 = .ok (.aload_n 0, 1) := by decide +kernel
theorem dX9_ways_12 : decode cX9_ways 12 = .ok (.getfield 34, 3) := by decide +kernel
theorem dX9_ways_15 : decode cX9_ways 15 = .ok (.aload_n 0, 1) := by decide +kernel
theorem dX9_ways_16 : decode cX9_ways 16 = .ok (.getfield 19, 3) := by decide +kernel
theorem dX9_ways_19 : decode cX9_ways 19 = .ok (.iload_n 1, 1) := by decide +kernel
theorem dX9_ways_20 : decode cX9_ways 20 = .ok (.invokevirtual 134, 3) := by decide +kernel
theorem dX9_ways_23 : decode cX9_ways 23 = .ok (.goto 5, 3) := by decide +kernel
theorem dX9_ways_26 : decode cX9_ways 26 = .ok (.bipush (-2), 2) := by decide +kernel
theorem dX9_ways_28 : decode cX9_ways 28 = .ok (.ireturn, 1) := by decide +kernel
theorem dX9_response_0 : decode cX9_response 0 = .ok (.aload_n 0, 1) := by decide +kernel
theorem dX9_response_1 : decode cX9_response 1 = .ok (.getfield 19, 3) := by decide +kernel
theorem dX9_response_4 : decode cX9_response 4 = .ok (.iload_n 1, 1) := by decide +kernel
theorem dX9_response_5 : decode cX9_response 5 = .ok (.invokevirtual 100, 3) := by decide +kernel
theorem dX9_response_8 : decode cX9_response 8 = .ok (.ifCond .ne 6, 3) := by decide +kernel
theorem dX9_response_11 : decode cX9_response 11 = .ok (.bipush (-2), 2) := by decide +kernel
theorem dX9_response_13 : decode cX9_response 13 = .ok (.ireturn, 1) := by decide +kernel
theorem dX9_response_14 : decode cX9_response 14 = .ok (.aload_n 0, 1) := by decide +kernel
theorem dX9_response_15 : decode cX9_response 15 = .ok (.getfield 41, 3) := by decide +kernel
theorem dX9_response_18 : decode cX9_response 18 = .ok (.aload_n 0, 1) := by decide +kernel
theorem dX9_response_19 : decode cX9_response 19 = .ok (.getfield 19, 3) := by decide +kernel
theorem dX9_response_22 : decode cX9_response 22 = .ok (.getfield 138, 3) := by decide +kernel
theorem dX9_response_25 : decode cX9_response 25 = .ok (.invokevirtual 141, 3) := by decide +kernel
theorem dX9_response_28 : decode cX9_response 28 = .ok (.aload_n 0, 1) := by decide +kernel
theorem dX9_response_29 : decode cX9_response 29 = .ok (.getfield 41, 3) := by decide +kernel
theorem dX9_response_32 : decode cX9_response 32 = .ok (.aload_n 0, 1) := by decide +kernel
theorem dX9_response_33 : decode cX9_response 33 = .ok (.getfield 19, 3) := by decide +kernel
theorem dX9_response_36 : decode cX9_response 36 = .ok (.iload_n 1, 1) := by decide +kernel
theorem dX9_response_37 : decode cX9_response 37 = .ok (.invokevirtual 145, 3) := by decide +kernel
theorem dX9_response_40 : decode cX9_response 40 = .ok (.ireturn, 1) := by decide +kernel
theorem dX9_least_0 : decode cX9_least 0 = .ok (.aload_n 0, 1) := by decide +kernel
theorem dX9_least_1 : decode cX9_least 1 = .ok (.getfield 19, 3) := by decide +kernel
theorem dX9_least_4 : decode cX9_least 4 = .ok (.iload_n 1, 1) := by decide +kernel
theorem dX9_least_5 : decode cX9_least 5 = .ok (.invokevirtual 100, 3) := by decide +kernel
theorem dX9_least_8 : decode cX9_least 8 = .ok (.ifCond .eq 12, 3) := by decide +kernel
theorem dX9_least_11 : decode cX9_least 11 = .ok (.iload_n 2, 1) := by decide +kernel
theorem dX9_least_12 : decode cX9_least 12 = .ok (.ifCond .lt 8, 3) := by decide +kernel
theorem dX9_least_15 : decode cX9_least 15 = .ok (.iload_n 2, 1) := by decide +kernel
theorem dX9_least_16 : decode cX9_least 16 = .ok (.iconst 3, 1) := by decide +kernel
theorem dX9_least_17 : decode cX9_least 17 = .ok (.if_icmp .le 6, 3) := by decide +kernel
theorem dX9_least_20 : decode cX9_least 20 = .ok (.bipush (-2), 2) := by decide +kernel
theorem dX9_least_22 : decode cX9_least 22 = .ok (.ireturn, 1) := by decide +kernel
theorem dX9_least_23 : decode cX9_least 23 = .ok (.aload_n 0, 1) := by decide +kernel
theorem dX9_least_24 : decode cX9_least 24 = .ok (.iload_n 1, 1) := by decide +kernel
theorem dX9_least_25 : decode cX9_least 25 = .ok (.invokevirtual 148, 3) := by decide +kernel
theorem dX9_least_28 : decode cX9_least 28 = .ok (.istore_n 3, 1) := by decide +kernel
theorem dX9_least_29 : decode cX9_least 29 = .ok (.iload_n 3, 1) := by decide +kernel
theorem dX9_least_30 : decode cX9_least 30 = .ok (.iconst (-1), 1) := by decide +kernel
theorem dX9_least_31 : decode cX9_least 31 = .ok (.if_icmp .ne 5, 3) := by decide +kernel
theorem dX9_least_34 : decode cX9_least 34 = .ok (.iconst (-1), 1) := by decide +kernel
theorem dX9_least_35 : decode cX9_least 35 = .ok (.ireturn, 1) := by decide +kernel
theorem dX9_least_36 : decode cX9_least 36 = .ok (.aload_n 0, 1) := by decide +kernel
theorem dX9_least_37 : decode cX9_least 37 = .ok (.getfield 19, 3) := by decide +kernel
theorem dX9_least_40 : decode cX9_least 40 = .ok (.iload_n 1, 1) := by decide +kernel
theorem dX9_least_41 : decode cX9_least 41 = .ok (.iload_n 3, 1) := by decide +kernel
theorem dX9_least_42 : decode cX9_least 42 = .ok (.aload_n 0, 1) := by decide +kernel
theorem dX9_least_43 : decode cX9_least 43 = .ok (.getfield 19, 3) := by decide +kernel
theorem dX9_least_46 : decode cX9_least 46 = .ok (.getfield 131, 3) := by decide +kernel
theorem dX9_least_49 : decode cX9_least 49 = .ok (.iload_n 1, 1) := by decide +kernel
theorem dX9_least_50 : decode cX9_least 50 = .ok (.aaload, 1) := by decide +kernel
theorem dX9_least_51 : decode cX9_least 51 = .ok (.iconst 0, 1) := by decide +kernel
theorem dX9_least_52 : decode cX9_least 52 = .ok (.iaload, 1) := by decide +kernel
theorem dX9_least_53 : decode cX9_least 53 = .ok (.isub, 1) := by decide +kernel
theorem dX9_least_54 : decode cX9_least 54 = .ok (.iload_n 2, 1) := by decide +kernel
theorem dX9_least_55 : decode cX9_least 55 = .ok (.invokestatic 151, 3) := by decide +kernel
theorem dX9_least_58 : decode cX9_least 58 = .ok (.ireturn, 1) := by decide +kernel
theorem dX9_room_0 : decode cX9_room 0 = .ok (.aload_n 0, 1) := by decide +kernel
theorem dX9_room_1 : decode cX9_room 1 = .ok (.getfield 19, 3) := by decide +kernel
theorem dX9_room_4 : decode cX9_room 4 = .ok (.iload_n 1, 1) := by decide +kernel
theorem dX9_room_5 : decode cX9_room 5 = .ok (.invokevirtual 100, 3) := by decide +kernel
theorem dX9_room_8 : decode cX9_room 8 = .ok (.ifCond .ne 6, 3) := by decide +kernel
theorem dX9_room_11 : decode cX9_room 11 = .ok (.bipush (-2), 2) := by decide +kernel
theorem dX9_room_13 : decode cX9_room 13 = .ok (.ireturn, 1) := by decide +kernel
theorem dX9_room_14 : decode cX9_room 14 = .ok (.aload_n 0, 1) := by decide +kernel
theorem dX9_room_15 : decode cX9_room 15 = .ok (.getfield 41, 3) := by decide +kernel
theorem dX9_room_18 : decode cX9_room 18 = .ok (.aload_n 0, 1) := by decide +kernel
theorem dX9_room_19 : decode cX9_room 19 = .ok (.getfield 19, 3) := by decide +kernel
theorem dX9_room_22 : decode cX9_room 22 = .ok (.iload_n 1, 1) := by decide +kernel
theorem dX9_room_23 : decode cX9_room 23 = .ok (.invokevirtual 155, 3) := by decide +kernel
theorem dX9_room_26 : decode cX9_room 26 = .ok (.ireturn, 1) := by decide +kernel
theorem dX9_orders_0 : decode cX9_orders 0 = .ok (.aload_n 0, 1) := by decide +kernel
theorem dX9_orders_1 : decode cX9_orders 1 = .ok (.getfield 19, 3) := by decide +kernel
theorem dX9_orders_4 : decode cX9_orders 4 = .ok (.getfield 90, 3) := by decide +kernel
theorem dX9_orders_7 : decode cX9_orders 7 = .ok (.ifCond .ne 8, 3) := by decide +kernel
theorem dX9_orders_10 : decode cX9_orders 10 = .ok (.bipush (-2), 2) := by decide +kernel
theorem dX9_orders_12 : decode cX9_orders 12 = .ok (.goto 14, 3) := by decide +kernel
theorem dX9_orders_15 : decode cX9_orders 15 = .ok (.aload_n 0, 1) := by decide +kernel
theorem dX9_orders_16 : decode cX9_orders 16 = .ok (.getfield 41, 3) := by decide +kernel
theorem dX9_orders_19 : decode cX9_orders 19 = .ok (.aload_n 0, 1) := by decide +kernel
theorem dX9_orders_20 : decode cX9_orders 20 = .ok (.getfield 19, 3) := by decide +kernel
theorem dX9_orders_23 : decode cX9_orders 23 = .ok (.invokevirtual 158, 3) := by decide +kernel
theorem dX9_orders_26 : decode cX9_orders 26 = .ok (.ireturn, 1) := by decide +kernel
theorem dX9_order_0 : decode cX9_order 0 = .ok (.aload_n 0, 1) := by decide +kernel
theorem dX9_order_1 : decode cX9_order 1 = .ok (.getfield 19, 3) := by decide +kernel
theorem dX9_order_4 : decode cX9_order 4 = .ok (.getfield 90, 3) := by decide +kernel
theorem dX9_order_7 : decode cX9_order 7 = .ok (.ifCond .ne 6, 3) := by decide +kernel
theorem dX9_order_10 : decode cX9_order 10 = .ok (.bipush (-2), 2) := by decide +kernel
theorem dX9_order_12 : decode cX9_order 12 = .ok (.ireturn, 1) := by decide +kernel
theorem dX9_order_13 : decode cX9_order 13 = .ok (.aload_n 0, 1) := by decide +kernel
theorem dX9_order_14 : decode cX9_order 14 = .ok (.getfield 19, 3) := by decide +kernel
theorem dX9_order_17 : decode cX9_order 17 = .ok (.iload_n 1, 1) := by decide +kernel
theorem dX9_order_18 : decode cX9_order 18 = .ok (.invokevirtual 100, 3) := by decide +kernel
theorem dX9_order_21 : decode cX9_order 21 = .ok (.ifCond .eq 17, 3) := by decide +kernel
theorem dX9_order_24 : decode cX9_order 24 = .ok (.aload_n 0, 1) := by decide +kernel
theorem dX9_order_25 : decode cX9_order 25 = .ok (.getfield 41, 3) := by decide +kernel
theorem dX9_order_28 : decode cX9_order 28 = .ok (.aload_n 0, 1) := by decide +kernel
theorem dX9_order_29 : decode cX9_order 29 = .ok (.getfield 19, 3) := by decide +kernel
theorem dX9_order_32 : decode cX9_order 32 = .ok (.invokevirtual 162, 3) := by decide +kernel
theorem dX9_order_35 : decode cX9_order 35 = .ok (.ifCond .ne 5, 3) := by decide +kernel
theorem dX9_order_38 : decode cX9_order 38 = .ok (.iconst (-1), 1) := by decide +kernel
theorem dX9_order_39 : decode cX9_order 39 = .ok (.ireturn, 1) := by decide +kernel
theorem dX9_order_40 : decode cX9_order 40 = .ok (.aload_n 0, 1) := by decide +kernel
theorem dX9_order_41 : decode cX9_order 41 = .ok (.getfield 41, 3) := by decide +kernel
theorem dX9_order_44 : decode cX9_order 44 = .ok (.getfield 166, 3) := by decide +kernel
theorem dX9_order_47 : decode cX9_order 47 = .ok (.iload_n 1, 1) := by decide +kernel
theorem dX9_order_48 : decode cX9_order 48 = .ok (.iaload, 1) := by decide +kernel
theorem dX9_order_49 : decode cX9_order 49 = .ok (.ireturn, 1) := by decide +kernel
theorem dX9_path_0 : decode cX9_path 0 = .ok (.aload_n 0, 1) := by decide +kernel
theorem dX9_path_1 : decode cX9_path 1 = .ok (.getfield 19, 3) := by decide +kernel
theorem dX9_path_4 : decode cX9_path 4 = .ok (.iload_n 1, 1) := by decide +kernel
theorem dX9_path_5 : decode cX9_path 5 = .ok (.invokevirtual 100, 3) := by decide +kernel
theorem dX9_path_8 : decode cX9_path 8 = .ok (.ifCond .eq 14, 3) := by decide +kernel
theorem dX9_path_11 : decode cX9_path 11 = .ok (.iload_n 2, 1) := by decide +kernel
theorem dX9_path_12 : decode cX9_path 12 = .ok (.invokestatic 169, 3) := by decide +kernel
theorem dX9_path_15 : decode cX9_path 15 = .ok (.ifCond .eq 7, 3) := by decide +kernel
theorem dX9_path_18 : decode cX9_path 18 = .ok (.iload_n 3, 1) := by decide +kernel
theorem dX9_path_19 : decode cX9_path 19 = .ok (.ifCond .ge 6, 3) := by decide +kernel
theorem dX9_path_22 : decode cX9_path 22 = .ok (.bipush (-2), 2) := by decide +kernel
theorem dX9_path_24 : decode cX9_path 24 = .ok (.ireturn, 1) := by decide +kernel
theorem dX9_path_25 : decode cX9_path 25 = .ok (.aload_n 0, 1) := by decide +kernel
theorem dX9_path_26 : decode cX9_path 26 = .ok (.getfield 19, 3) := by decide +kernel
theorem dX9_path_29 : decode cX9_path 29 = .ok (.iload_n 1, 1) := by decide +kernel
theorem dX9_path_30 : decode cX9_path 30 = .ok (.iload_n 2, 1) := by decide +kernel
theorem dX9_path_31 : decode cX9_path 31 = .ok (.iload_n 3, 1) := by decide +kernel
theorem dX9_path_32 : decode cX9_path 32 = .ok (.invokestatic 172, 3) := by decide +kernel
theorem dX9_path_35 : decode cX9_path 35 = .ok (.ireturn, 1) := by decide +kernel
theorem dX9_answer_0 : decode cX9_answer 0 = .ok (.aload_n 0, 1) := by decide +kernel
theorem dX9_answer_1 : decode cX9_answer 1 = .ok (.getfield 19, 3) := by decide +kernel
theorem dX9_answer_4 : decode cX9_answer 4 = .ok (.iload_n 1, 1) := by decide +kernel
theorem dX9_answer_5 : decode cX9_answer 5 = .ok (.invokevirtual 100, 3) := by decide +kernel
theorem dX9_answer_8 : decode cX9_answer 8 = .ok (.ifCond .eq 17, 3) := by decide +kernel
theorem dX9_answer_11 : decode cX9_answer 11 = .ok (.iload_n 2, 1) := by decide +kernel
theorem dX9_answer_12 : decode cX9_answer 12 = .ok (.invokestatic 169, 3) := by decide +kernel
theorem dX9_answer_15 : decode cX9_answer 15 = .ok (.ifCond .eq 10, 3) := by decide +kernel
theorem dX9_answer_18 : decode cX9_answer 18 = .ok (.iload_n 3, 1) := by decide +kernel
theorem dX9_answer_19 : decode cX9_answer 19 = .ok (.invokestatic 175, 3) := by decide +kernel
theorem dX9_answer_22 : decode cX9_answer 22 = .ok (.ifCond .ne 6, 3) := by decide +kernel
theorem dX9_answer_25 : decode cX9_answer 25 = .ok (.bipush (-2), 2) := by decide +kernel
theorem dX9_answer_27 : decode cX9_answer 27 = .ok (.ireturn, 1) := by decide +kernel
theorem dX9_answer_28 : decode cX9_answer 28 = .ok (.aload_n 0, 1) := by decide +kernel
theorem dX9_answer_29 : decode cX9_answer 29 = .ok (.getfield 19, 3) := by decide +kernel
theorem dX9_answer_32 : decode cX9_answer 32 = .ok (.iload_n 1, 1) := by decide +kernel
theorem dX9_answer_33 : decode cX9_answer 33 = .ok (.iload_n 2, 1) := by decide +kernel
theorem dX9_answer_34 : decode cX9_answer 34 = .ok (.iload_n 3, 1) := by decide +kernel
theorem dX9_answer_35 : decode cX9_answer 35 = .ok (.invokestatic 178, 3) := by decide +kernel
theorem dX9_answer_38 : decode cX9_answer 38 = .ok (.ireturn, 1) := by decide +kernel
theorem dX9_alike_0 : decode cX9_alike 0 = .ok (.aload_n 0, 1) := by decide +kernel
theorem dX9_alike_1 : decode cX9_alike 1 = .ok (.getfield 19, 3) := by decide +kernel
theorem dX9_alike_4 : decode cX9_alike 4 = .ok (.iload_n 1, 1) := by decide +kernel
theorem dX9_alike_5 : decode cX9_alike 5 = .ok (.invokevirtual 100, 3) := by decide +kernel
theorem dX9_alike_8 : decode cX9_alike 8 = .ok (.ifCond .eq 10, 3) := by decide +kernel
theorem dX9_alike_11 : decode cX9_alike 11 = .ok (.iload_n 2, 1) := by decide +kernel
theorem dX9_alike_12 : decode cX9_alike 12 = .ok (.invokestatic 175, 3) := by decide +kernel
theorem dX9_alike_15 : decode cX9_alike 15 = .ok (.ifCond .ne 6, 3) := by decide +kernel
theorem dX9_alike_18 : decode cX9_alike 18 = .ok (.bipush (-2), 2) := by decide +kernel
theorem dX9_alike_20 : decode cX9_alike 20 = .ok (.ireturn, 1) := by decide +kernel
theorem dX9_alike_21 : decode cX9_alike 21 = .ok (.aload_n 0, 1) := by decide +kernel
theorem dX9_alike_22 : decode cX9_alike 22 = .ok (.getfield 34, 3) := by decide +kernel
theorem dX9_alike_25 : decode cX9_alike 25 = .ok (.aload_n 0, 1) := by decide +kernel
theorem dX9_alike_26 : decode cX9_alike 26 = .ok (.getfield 19, 3) := by decide +kernel
theorem dX9_alike_29 : decode cX9_alike 29 = .ok (.iload_n 1, 1) := by decide +kernel
theorem dX9_alike_30 : decode cX9_alike 30 = .ok (.iload_n 2, 1) := by decide +kernel
theorem dX9_alike_31 : decode cX9_alike 31 = .ok (.invokevirtual 181, 3) := by decide +kernel
theorem dX9_alike_34 : decode cX9_alike 34 = .ok (.ireturn, 1) := by decide +kernel
theorem dX9_lawful_0 : decode cX9_lawful 0 = .ok (.aload_n 0, 1) := by decide +kernel
theorem dX9_lawful_1 : decode cX9_lawful 1 = .ok (.getfield 19, 3) := by decide +kernel
theorem dX9_lawful_4 : decode cX9_lawful 4 = .ok (.getfield 90, 3) := by decide +kernel
theorem dX9_lawful_7 : decode cX9_lawful 7 = .ok (.ifCond .ne 8, 3) := by decide +kernel
theorem dX9_lawful_10 : decode cX9_lawful 10 = .ok (.bipush (-2), 2) := by decide +kernel
theorem dX9_lawful_12 : decode cX9_lawful 12 = .ok (.goto 14, 3) := by decide +kernel
theorem dX9_lawful_15 : decode cX9_lawful 15 = .ok (.aload_n 0, 1) := by decide +kernel
theorem dX9_lawful_16 : decode cX9_lawful 16 = .ok (.getfield 41, 3) := by decide +kernel
theorem dX9_lawful_19 : decode cX9_lawful 19 = .ok (.aload_n 0, 1) := by decide +kernel
theorem dX9_lawful_20 : decode cX9_lawful 20 = .ok (.getfield 19, 3) := by decide +kernel
theorem dX9_lawful_23 : decode cX9_lawful 23 = .ok (.invokevirtual 185, 3) := by decide +kernel
theorem dX9_lawful_26 : decode cX9_lawful 26 = .ok (.ireturn, 1) := by decide +kernel
theorem dX9_load_0 : decode cX9_load 0 = .ok (.aload_n 0, 1) := by decide +kernel
theorem dX9_load_1 : decode cX9_load 1 = .ok (.getfield 19, 3) := by decide +kernel
theorem dX9_load_4 : decode cX9_load 4 = .ok (.getfield 90, 3) := by decide +kernel
theorem dX9_load_7 : decode cX9_load 7 = .ok (.ifCond .ne 8, 3) := by decide +kernel
theorem dX9_load_10 : decode cX9_load 10 = .ok (.bipush (-2), 2) := by decide +kernel
theorem dX9_load_12 : decode cX9_load 12 = .ok (.goto 13, 3) := by decide +kernel
theorem dX9_load_15 : decode cX9_load 15 = .ok (.aload_n 0, 1) := by decide +kernel
theorem dX9_load_16 : decode cX9_load 16 = .ok (.getfield 19, 3) := by decide +kernel
theorem dX9_load_19 : decode cX9_load 19 = .ok (.invokestatic 188, 3) := by decide +kernel
theorem dX9_load_22 : decode cX9_load 22 = .ok (.invokestatic 192, 3) := by decide +kernel
theorem dX9_load_25 : decode cX9_load 25 = .ok (.ireturn, 1) := by decide +kernel
theorem dX9_had_0 : decode cX9_had 0 = .ok (.iload_n 1, 1) := by decide +kernel
theorem dX9_had_1 : decode cX9_had 1 = .ok (.ifCond .lt 14, 3) := by decide +kernel
theorem dX9_had_4 : decode cX9_had 4 = .ok (.iload_n 1, 1) := by decide +kernel
theorem dX9_had_5 : decode cX9_had 5 = .ok (.aload_n 0, 1) := by decide +kernel
theorem dX9_had_6 : decode cX9_had 6 = .ok (.getfield 19, 3) := by decide +kernel
theorem dX9_had_9 : decode cX9_had 9 = .ok (.getfield 196, 3) := by decide +kernel
theorem dX9_had_12 : decode cX9_had 12 = .ok (.if_icmp .lt 6, 3) := by decide +kernel
theorem dX9_had_15 : decode cX9_had 15 = .ok (.bipush (-2), 2) := by decide +kernel
theorem dX9_had_17 : decode cX9_had 17 = .ok (.ireturn, 1) := by decide +kernel
theorem dX9_had_18 : decode cX9_had 18 = .ok (.aload_n 0, 1) := by decide +kernel
theorem dX9_had_19 : decode cX9_had 19 = .ok (.getfield 52, 3) := by decide +kernel
theorem dX9_had_22 : decode cX9_had 22 = .ok (.iload_n 1, 1) := by decide +kernel
theorem dX9_had_23 : decode cX9_had 23 = .ok (.iconst 1, 1) := by decide +kernel
theorem dX9_had_24 : decode cX9_had 24 = .ok (.iadd, 1) := by decide +kernel
theorem dX9_had_25 : decode cX9_had 25 = .ok (.invokevirtual 199, 3) := by decide +kernel
theorem dX9_had_28 : decode cX9_had 28 = .ok (.aload_n 0, 1) := by decide +kernel
theorem dX9_had_29 : decode cX9_had 29 = .ok (.getfield 52, 3) := by decide +kernel
theorem dX9_had_32 : decode cX9_had 32 = .ok (.getfield 202, 3) := by decide +kernel
theorem dX9_had_35 : decode cX9_had 35 = .ok (.ireturn, 1) := by decide +kernel
theorem dX9_idle_0 : decode cX9_idle 0 = .ok (.aload_n 0, 1) := by decide +kernel
theorem dX9_idle_1 : decode cX9_idle 1 = .ok (.iload_n 1, 1) := by decide +kernel
theorem dX9_idle_2 : decode cX9_idle 2 = .ok (.invokevirtual 205, 3) := by decide +kernel
theorem dX9_idle_5 : decode cX9_idle 5 = .ok (.ifCond .ne 6, 3) := by decide +kernel
theorem dX9_idle_8 : decode cX9_idle 8 = .ok (.bipush (-2), 2) := by decide +kernel
theorem dX9_idle_10 : decode cX9_idle 10 = .ok (.ireturn, 1) := by decide +kernel
theorem dX9_idle_11 : decode cX9_idle 11 = .ok (.aload_n 0, 1) := by decide +kernel
theorem dX9_idle_12 : decode cX9_idle 12 = .ok (.getfield 52, 3) := by decide +kernel
theorem dX9_idle_15 : decode cX9_idle 15 = .ok (.iload_n 1, 1) := by decide +kernel
theorem dX9_idle_16 : decode cX9_idle 16 = .ok (.invokevirtual 199, 3) := by decide +kernel
theorem dX9_idle_19 : decode cX9_idle 19 = .ok (.aload_n 0, 1) := by decide +kernel
theorem dX9_idle_20 : decode cX9_idle 20 = .ok (.getfield 52, 3) := by decide +kernel
theorem dX9_idle_23 : decode cX9_idle 23 = .ok (.getfield 208, 3) := by decide +kernel
theorem dX9_idle_26 : decode cX9_idle 26 = .ok (.ireturn, 1) := by decide +kernel
theorem dX9_kicks_0 : decode cX9_kicks 0 = .ok (.aload_n 0, 1) := by decide +kernel
theorem dX9_kicks_1 : decode cX9_kicks 1 = .ok (.iload_n 1, 1) := by decide +kernel
theorem dX9_kicks_2 : decode cX9_kicks 2 = .ok (.iload_n 2, 1) := by decide +kernel
theorem dX9_kicks_3 : decode cX9_kicks 3 = .ok (.invokevirtual 211, 3) := by decide +kernel
theorem dX9_kicks_6 : decode cX9_kicks 6 = .ok (.ifCond .eq 15, 3) := by decide +kernel
theorem dX9_kicks_9 : decode cX9_kicks 9 = .ok (.aload_n 0, 1) := by decide +kernel
theorem dX9_kicks_10 : decode cX9_kicks 10 = .ok (.iload_n 1, 1) := by decide +kernel
theorem dX9_kicks_11 : decode cX9_kicks 11 = .ok (.iload_n 2, 1) := by decide +kernel
theorem dX9_kicks_12 : decode cX9_kicks 12 = .ok (.invokevirtual 214, 3) := by decide +kernel
theorem dX9_kicks_15 : decode cX9_kicks 15 = .ok (.getfield 218, 3) := by decide +kernel
theorem dX9_kicks_18 : decode cX9_kicks 18 = .ok (.goto 5, 3) := by decide +kernel
theorem dX9_kicks_21 : decode cX9_kicks 21 = .ok (.bipush (-2), 2) := by decide +kernel
theorem dX9_kicks_23 : decode cX9_kicks 23 = .ok (.ireturn, 1) := by decide +kernel
theorem dX9_kicked_0 : decode cX9_kicked 0 = .ok (.aload_n 0, 1) := by decide +kernel
theorem dX9_kicked_1 : decode cX9_kicked 1 = .ok (.iload_n 1, 1) := by decide +kernel
theorem dX9_kicked_2 : decode cX9_kicked 2 = .ok (.iload_n 2, 1) := by decide +kernel
theorem dX9_kicked_3 : decode cX9_kicked 3 = .ok (.invokevirtual 211, 3) := by decide +kernel
theorem dX9_kicked_6 : decode cX9_kicked 6 = .ok (.ifCond .eq 15, 3) := by decide +kernel
theorem dX9_kicked_9 : decode cX9_kicked 9 = .ok (.aload_n 0, 1) := by decide +kernel
theorem dX9_kicked_10 : decode cX9_kicked 10 = .ok (.iload_n 1, 1) := by decide +kernel
theorem dX9_kicked_11 : decode cX9_kicked 11 = .ok (.iload_n 2, 1) := by decide +kernel
theorem dX9_kicked_12 : decode cX9_kicked 12 = .ok (.invokevirtual 214, 3) := by decide +kernel
theorem dX9_kicked_15 : decode cX9_kicked 15 = .ok (.getfield 223, 3) := by decide +kernel
theorem dX9_kicked_18 : decode cX9_kicked 18 = .ok (.goto 5, 3) := by decide +kernel
theorem dX9_kicked_21 : decode cX9_kicked 21 = .ok (.bipush (-2), 2) := by decide +kernel
theorem dX9_kicked_23 : decode cX9_kicked 23 = .ok (.ireturn, 1) := by decide +kernel
theorem dX9_gap_0 : decode cX9_gap 0 = .ok (.aload_n 0, 1) := by decide +kernel
theorem dX9_gap_1 : decode cX9_gap 1 = .ok (.getfield 19, 3) := by decide +kernel
theorem dX9_gap_4 : decode cX9_gap 4 = .ok (.iload_n 1, 1) := by decide +kernel
theorem dX9_gap_5 : decode cX9_gap 5 = .ok (.invokevirtual 100, 3) := by decide +kernel
theorem dX9_gap_8 : decode cX9_gap 8 = .ok (.ifCond .eq 7, 3) := by decide +kernel
theorem dX9_gap_11 : decode cX9_gap 11 = .ok (.iload_n 2, 1) := by decide +kernel
theorem dX9_gap_12 : decode cX9_gap 12 = .ok (.ifCond .ge 6, 3) := by decide +kernel
theorem dX9_gap_15 : decode cX9_gap 15 = .ok (.bipush (-2), 2) := by decide +kernel
theorem dX9_gap_17 : decode cX9_gap 17 = .ok (.ireturn, 1) := by decide +kernel
theorem dX9_gap_18 : decode cX9_gap 18 = .ok (.aload_n 0, 1) := by decide +kernel
theorem dX9_gap_19 : decode cX9_gap 19 = .ok (.getfield 48, 3) := by decide +kernel
theorem dX9_gap_22 : decode cX9_gap 22 = .ok (.iload_n 1, 1) := by decide +kernel
theorem dX9_gap_23 : decode cX9_gap 23 = .ok (.iload_n 2, 1) := by decide +kernel
theorem dX9_gap_24 : decode cX9_gap 24 = .ok (.invokevirtual 226, 3) := by decide +kernel
theorem dX9_gap_27 : decode cX9_gap 27 = .ok (.ireturn, 1) := by decide +kernel
theorem dX9_jobs_0 : decode cX9_jobs 0 = .ok (.aload_n 0, 1) := by decide +kernel
theorem dX9_jobs_1 : decode cX9_jobs 1 = .ok (.iload_n 1, 1) := by decide +kernel
theorem dX9_jobs_2 : decode cX9_jobs 2 = .ok (.iload_n 2, 1) := by decide +kernel
theorem dX9_jobs_3 : decode cX9_jobs 3 = .ok (.invokevirtual 211, 3) := by decide +kernel
theorem dX9_jobs_6 : decode cX9_jobs 6 = .ok (.ifCond .eq 15, 3) := by decide +kernel
theorem dX9_jobs_9 : decode cX9_jobs 9 = .ok (.aload_n 0, 1) := by decide +kernel
theorem dX9_jobs_10 : decode cX9_jobs 10 = .ok (.iload_n 1, 1) := by decide +kernel
theorem dX9_jobs_11 : decode cX9_jobs 11 = .ok (.iload_n 2, 1) := by decide +kernel
theorem dX9_jobs_12 : decode cX9_jobs 12 = .ok (.invokevirtual 214, 3) := by decide +kernel
theorem dX9_jobs_15 : decode cX9_jobs 15 = .ok (.getfield 230, 3) := by decide +kernel
theorem dX9_jobs_18 : decode cX9_jobs 18 = .ok (.goto 5, 3) := by decide +kernel
theorem dX9_jobs_21 : decode cX9_jobs 21 = .ok (.bipush (-2), 2) := by decide +kernel
theorem dX9_jobs_23 : decode cX9_jobs 23 = .ok (.ireturn, 1) := by decide +kernel
theorem dX9_at_0 : decode cX9_at 0 = .ok (.aload_n 0, 1) := by decide +kernel
theorem dX9_at_1 : decode cX9_at 1 = .ok (.iload_n 1, 1) := by decide +kernel
theorem dX9_at_2 : decode cX9_at 2 = .ok (.iload_n 2, 1) := by decide +kernel
theorem dX9_at_3 : decode cX9_at 3 = .ok (.invokevirtual 211, 3) := by decide +kernel
theorem dX9_at_6 : decode cX9_at 6 = .ok (.ifCond .eq 15, 3) := by decide +kernel
theorem dX9_at_9 : decode cX9_at 9 = .ok (.aload_n 0, 1) := by decide +kernel
theorem dX9_at_10 : decode cX9_at 10 = .ok (.iload_n 1, 1) := by decide +kernel
theorem dX9_at_11 : decode cX9_at 11 = .ok (.iload_n 2, 1) := by decide +kernel
theorem dX9_at_12 : decode cX9_at 12 = .ok (.invokevirtual 214, 3) := by decide +kernel
theorem dX9_at_15 : decode cX9_at 15 = .ok (.getfield 233, 3) := by decide +kernel
theorem dX9_at_18 : decode cX9_at 18 = .ok (.goto 5, 3) := by decide +kernel
theorem dX9_at_21 : decode cX9_at 21 = .ok (.bipush (-2), 2) := by decide +kernel
theorem dX9_at_23 : decode cX9_at 23 = .ok (.ireturn, 1) := by decide +kernel
theorem dX9_question_0 : decode cX9_question 0 = .ok (.aload_n 0, 1) := by decide +kernel
theorem dX9_question_1 : decode cX9_question 1 = .ok (.iload_n 1, 1) := by decide +kernel
theorem dX9_question_2 : decode cX9_question 2 = .ok (.iload_n 2, 1) := by decide +kernel
theorem dX9_question_3 : decode cX9_question 3 = .ok (.invokevirtual 211, 3) := by decide +kernel
theorem dX9_question_6 : decode cX9_question 6 = .ok (.ifCond .eq 15, 3) := by decide +kernel
theorem dX9_question_9 : decode cX9_question 9 = .ok (.aload_n 0, 1) := by decide +kernel
theorem dX9_question_10 : decode cX9_question 10 = .ok (.iload_n 1, 1) := by decide +kernel
theorem dX9_question_11 : decode cX9_question 11 = .ok (.iload_n 2, 1) := by decide +kernel
theorem dX9_question_12 : decode cX9_question 12 = .ok (.invokevirtual 214, 3) := by decide +kernel
theorem dX9_question_15 : decode cX9_question 15 = .ok (.getfield 234, 3) := by decide +kernel
theorem dX9_question_18 : decode cX9_question 18 = .ok (.goto 5, 3) := by decide +kernel
theorem dX9_question_21 : decode cX9_question 21 = .ok (.bipush (-2), 2) := by decide +kernel
theorem dX9_question_23 : decode cX9_question 23 = .ok (.ireturn, 1) := by decide +kernel
theorem dX9_start_0 : decode cX9_start 0 = .ok (.aload_n 0, 1) := by decide +kernel
theorem dX9_start_1 : decode cX9_start 1 = .ok (.iload_n 1, 1) := by decide +kernel
theorem dX9_start_2 : decode cX9_start 2 = .ok (.iload_n 2, 1) := by decide +kernel
theorem dX9_start_3 : decode cX9_start 3 = .ok (.invokevirtual 211, 3) := by decide +kernel
theorem dX9_start_6 : decode cX9_start 6 = .ok (.ifCond .eq 15, 3) := by decide +kernel
theorem dX9_start_9 : decode cX9_start 9 = .ok (.aload_n 0, 1) := by decide +kernel
theorem dX9_start_10 : decode cX9_start 10 = .ok (.iload_n 1, 1) := by decide +kernel
theorem dX9_start_11 : decode cX9_start 11 = .ok (.iload_n 2, 1) := by decide +kernel
theorem dX9_start_12 : decode cX9_start 12 = .ok (.invokevirtual 214, 3) := by decide +kernel
theorem dX9_start_15 : decode cX9_start 15 = .ok (.getfield 237, 3) := by decide +kernel
theorem dX9_start_18 : decode cX9_start 18 = .ok (.goto 5, 3) := by decide +kernel
theorem dX9_start_21 : decode cX9_start 21 = .ok (.bipush (-2), 2) := by decide +kernel
theorem dX9_start_23 : decode cX9_start 23 = .ok (.ireturn, 1) := by decide +kernel
theorem dX9_memory_0 : decode cX9_memory 0 = .ok (.aload_n 0, 1) := by decide +kernel
theorem dX9_memory_1 : decode cX9_memory 1 = .ok (.iload_n 1, 1) := by decide +kernel
theorem dX9_memory_2 : decode cX9_memory 2 = .ok (.iload_n 2, 1) := by decide +kernel
theorem dX9_memory_3 : decode cX9_memory 3 = .ok (.invokevirtual 211, 3) := by decide +kernel
theorem dX9_memory_6 : decode cX9_memory 6 = .ok (.ifCond .eq 15, 3) := by decide +kernel
theorem dX9_memory_9 : decode cX9_memory 9 = .ok (.aload_n 0, 1) := by decide +kernel
theorem dX9_memory_10 : decode cX9_memory 10 = .ok (.iload_n 1, 1) := by decide +kernel
theorem dX9_memory_11 : decode cX9_memory 11 = .ok (.iload_n 2, 1) := by decide +kernel
theorem dX9_memory_12 : decode cX9_memory 12 = .ok (.invokevirtual 214, 3) := by decide +kernel
theorem dX9_memory_15 : decode cX9_memory 15 = .ok (.getfield 240, 3) := by decide +kernel
theorem dX9_memory_18 : decode cX9_memory 18 = .ok (.goto 5, 3) := by decide +kernel
theorem dX9_memory_21 : decode cX9_memory 21 = .ok (.bipush (-2), 2) := by decide +kernel
theorem dX9_memory_23 : decode cX9_memory 23 = .ok (.ireturn, 1) := by decide +kernel
theorem dX9_health_0 : decode cX9_health 0 = .ok (.aload_n 0, 1) := by decide +kernel
theorem dX9_health_1 : decode cX9_health 1 = .ok (.iload_n 1, 1) := by decide +kernel
theorem dX9_health_2 : decode cX9_health 2 = .ok (.iload_n 2, 1) := by decide +kernel
theorem dX9_health_3 : decode cX9_health 3 = .ok (.invokevirtual 211, 3) := by decide +kernel
theorem dX9_health_6 : decode cX9_health 6 = .ok (.ifCond .eq 18, 3) := by decide +kernel
theorem dX9_health_9 : decode cX9_health 9 = .ok (.aload_n 0, 1) := by decide +kernel
theorem dX9_health_10 : decode cX9_health 10 = .ok (.iload_n 1, 1) := by decide +kernel
theorem dX9_health_11 : decode cX9_health 11 = .ok (.iload_n 2, 1) := by decide +kernel
theorem dX9_health_12 : decode cX9_health 12 = .ok (.invokevirtual 214, 3) := by decide +kernel
theorem dX9_health_15 : decode cX9_health 15 = .ok (.getfield 243, 3) := by decide +kernel
theorem dX9_health_18 : decode cX9_health 18 = .ok (.invokestatic 192, 3) := by decide +kernel
theorem dX9_health_21 : decode cX9_health 21 = .ok (.goto 5, 3) := by decide +kernel
theorem dX9_health_24 : decode cX9_health 24 = .ok (.bipush (-2), 2) := by decide +kernel
theorem dX9_health_26 : decode cX9_health 26 = .ok (.ireturn, 1) := by decide +kernel
theorem dX9_tenths_0 : decode cX9_tenths 0 = .ok (.aload_n 0, 1) := by decide +kernel
theorem dX9_tenths_1 : decode cX9_tenths 1 = .ok (.iload_n 1, 1) := by decide +kernel
theorem dX9_tenths_2 : decode cX9_tenths 2 = .ok (.iload_n 2, 1) := by decide +kernel
theorem dX9_tenths_3 : decode cX9_tenths 3 = .ok (.invokevirtual 211, 3) := by decide +kernel
theorem dX9_tenths_6 : decode cX9_tenths 6 = .ok (.ifCond .eq 19, 3) := by decide +kernel
theorem dX9_tenths_9 : decode cX9_tenths 9 = .ok (.aload_n 0, 1) := by decide +kernel
theorem dX9_tenths_10 : decode cX9_tenths 10 = .ok (.iload_n 1, 1) := by decide +kernel
theorem dX9_tenths_11 : decode cX9_tenths 11 = .ok (.iload_n 2, 1) := by decide +kernel
theorem dX9_tenths_12 : decode cX9_tenths 12 = .ok (.invokevirtual 214, 3) := by decide +kernel
theorem dX9_tenths_15 : decode cX9_tenths 15 = .ok (.getfield 243, 3) := by decide +kernel
theorem dX9_tenths_18 : decode cX9_tenths 18 = .ok (.ldc 247, 2) := by decide +kernel
theorem dX9_tenths_20 : decode cX9_tenths 20 = .ok (.fmul, 1) := by decide +kernel
theorem dX9_tenths_21 : decode cX9_tenths 21 = .ok (.f2i, 1) := by decide +kernel
theorem dX9_tenths_22 : decode cX9_tenths 22 = .ok (.goto 5, 3) := by decide +kernel
theorem dX9_tenths_25 : decode cX9_tenths 25 = .ok (.bipush (-2), 2) := by decide +kernel
theorem dX9_tenths_27 : decode cX9_tenths 27 = .ok (.ireturn, 1) := by decide +kernel
theorem dX9_margin_0 : decode cX9_margin 0 = .ok (.aload_n 0, 1) := by decide +kernel
theorem dX9_margin_1 : decode cX9_margin 1 = .ok (.iload_n 1, 1) := by decide +kernel
theorem dX9_margin_2 : decode cX9_margin 2 = .ok (.iload_n 2, 1) := by decide +kernel
theorem dX9_margin_3 : decode cX9_margin 3 = .ok (.invokevirtual 211, 3) := by decide +kernel
theorem dX9_margin_6 : decode cX9_margin 6 = .ok (.ifCond .ne 6, 3) := by decide +kernel
theorem dX9_margin_9 : decode cX9_margin 9 = .ok (.bipush (-2), 2) := by decide +kernel
theorem dX9_margin_11 : decode cX9_margin 11 = .ok (.ireturn, 1) := by decide +kernel
theorem dX9_margin_12 : decode cX9_margin 12 = .ok (.aload_n 0, 1) := by decide +kernel
theorem dX9_margin_13 : decode cX9_margin 13 = .ok (.iload_n 1, 1) := by decide +kernel
theorem dX9_margin_14 : decode cX9_margin 14 = .ok (.iload_n 2, 1) := by decide +kernel
theorem dX9_margin_15 : decode cX9_margin 15 = .ok (.invokevirtual 214, 3) := by decide +kernel
theorem dX9_margin_18 : decode cX9_margin 18 = .ok (.astore_n 3, 1) := by decide +kernel
theorem dX9_margin_19 : decode cX9_margin 19 = .ok (.aload_n 3, 1) := by decide +kernel
theorem dX9_margin_20 : decode cX9_margin 20 = .ok (.getfield 248, 3) := by decide +kernel
theorem dX9_margin_23 : decode cX9_margin 23 = .ok (.ifCond .ne 7, 3) := by decide +kernel
theorem dX9_margin_26 : decode cX9_margin 26 = .ok (.iconst (-1), 1) := by decide +kernel
theorem dX9_margin_27 : decode cX9_margin 27 = .ok (.goto 10, 3) := by decide +kernel
theorem dX9_margin_30 : decode cX9_margin 30 = .ok (.aload_n 3, 1) := by decide +kernel
theorem dX9_margin_31 : decode cX9_margin 31 = .ok (.getfield 251, 3) := by decide +kernel
theorem dX9_margin_34 : decode cX9_margin 34 = .ok (.invokestatic 192, 3) := by decide +kernel
theorem dX9_margin_37 : decode cX9_margin 37 = .ok (.ireturn, 1) := by decide +kernel
theorem dX9_mean_0 : decode cX9_mean 0 = .ok (.aload_n 0, 1) := by decide +kernel
theorem dX9_mean_1 : decode cX9_mean 1 = .ok (.iload_n 1, 1) := by decide +kernel
theorem dX9_mean_2 : decode cX9_mean 2 = .ok (.iload_n 2, 1) := by decide +kernel
theorem dX9_mean_3 : decode cX9_mean 3 = .ok (.invokevirtual 211, 3) := by decide +kernel
theorem dX9_mean_6 : decode cX9_mean 6 = .ok (.ifCond .ne 7, 3) := by decide +kernel
theorem dX9_mean_9 : decode cX9_mean 9 = .ok (.ldc2_w 254, 3) := by decide +kernel
theorem dX9_mean_12 : decode cX9_mean 12 = .ok (.lreturn, 1) := by decide +kernel
theorem dX9_mean_13 : decode cX9_mean 13 = .ok (.aload_n 0, 1) := by decide +kernel
theorem dX9_mean_14 : decode cX9_mean 14 = .ok (.iload_n 1, 1) := by decide +kernel
theorem dX9_mean_15 : decode cX9_mean 15 = .ok (.iload_n 2, 1) := by decide +kernel
theorem dX9_mean_16 : decode cX9_mean 16 = .ok (.invokevirtual 214, 3) := by decide +kernel
theorem dX9_mean_19 : decode cX9_mean 19 = .ok (.astore_n 3, 1) := by decide +kernel
theorem dX9_mean_20 : decode cX9_mean 20 = .ok (.aload_n 3, 1) := by decide +kernel
theorem dX9_mean_21 : decode cX9_mean 21 = .ok (.getfield 248, 3) := by decide +kernel
theorem dX9_mean_24 : decode cX9_mean 24 = .ok (.ifCond .ne 9, 3) := by decide +kernel
theorem dX9_mean_27 : decode cX9_mean 27 = .ok (.ldc2_w 256, 3) := by decide +kernel
theorem dX9_mean_30 : decode cX9_mean 30 = .ok (.goto 16, 3) := by decide +kernel
theorem dX9_mean_33 : decode cX9_mean 33 = .ok (.aload_n 3, 1) := by decide +kernel
theorem dX9_mean_34 : decode cX9_mean 34 = .ok (.getfield 258, 3) := by decide +kernel
theorem dX9_mean_37 : decode cX9_mean 37 = .ok (.aload_n 3, 1) := by decide +kernel
theorem dX9_mean_38 : decode cX9_mean 38 = .ok (.getfield 248, 3) := by decide +kernel
theorem dX9_mean_41 : decode cX9_mean 41 = .ok (.i2d, 1) := by decide +kernel
theorem dX9_mean_42 : decode cX9_mean 42 = .ok (.ddiv, 1) := by decide +kernel
theorem dX9_mean_43 : decode cX9_mean 43 = .ok (.invokestatic 262, 3) := by decide +kernel
theorem dX9_mean_46 : decode cX9_mean 46 = .ok (.lreturn, 1) := by decide +kernel
theorem dX9_faults_0 : decode cX9_faults 0 = .ok (.aload_n 0, 1) := by decide +kernel
theorem dX9_faults_1 : decode cX9_faults 1 = .ok (.iload_n 1, 1) := by decide +kernel
theorem dX9_faults_2 : decode cX9_faults 2 = .ok (.invokevirtual 205, 3) := by decide +kernel
theorem dX9_faults_5 : decode cX9_faults 5 = .ok (.ifCond .eq 17, 3) := by decide +kernel
theorem dX9_faults_8 : decode cX9_faults 8 = .ok (.aload_n 0, 1) := by decide +kernel
theorem dX9_faults_9 : decode cX9_faults 9 = .ok (.getfield 48, 3) := by decide +kernel
theorem dX9_faults_12 : decode cX9_faults 12 = .ok (.getfield 266, 3) := by decide +kernel
theorem dX9_faults_15 : decode cX9_faults 15 = .ok (.iload_n 1, 1) := by decide +kernel
theorem dX9_faults_16 : decode cX9_faults 16 = .ok (.invokevirtual 270, 3) := by decide +kernel
theorem dX9_faults_19 : decode cX9_faults 19 = .ok (.goto 5, 3) := by decide +kernel
theorem dX9_faults_22 : decode cX9_faults 22 = .ok (.bipush (-2), 2) := by decide +kernel
theorem dX9_faults_24 : decode cX9_faults 24 = .ok (.ireturn, 1) := by decide +kernel
theorem dX9_record_0 : decode cX9_record 0 = .ok (.aload_n 0, 1) := by decide +kernel
theorem dX9_record_1 : decode cX9_record 1 = .ok (.getfield 19, 3) := by decide +kernel
theorem dX9_record_4 : decode cX9_record 4 = .ok (.getfield 90, 3) := by decide +kernel
theorem dX9_record_7 : decode cX9_record 7 = .ok (.ifCond .eq 16, 3) := by decide +kernel
theorem dX9_record_10 : decode cX9_record 10 = .ok (.iload_n 1, 1) := by decide +kernel
theorem dX9_record_11 : decode cX9_record 11 = .ok (.ifCond .lt 12, 3) := by decide +kernel
theorem dX9_record_14 : decode cX9_record 14 = .ok (.iload_n 2, 1) := by decide +kernel
theorem dX9_record_15 : decode cX9_record 15 = .ok (.ifCond .lt 8, 3) := by decide +kernel
theorem dX9_record_18 : decode cX9_record 18 = .ok (.iload_n 2, 1) := by decide +kernel
theorem dX9_record_19 : decode cX9_record 19 = .ok (.iconst 4, 1) := by decide +kernel
theorem dX9_record_20 : decode cX9_record 20 = .ok (.if_icmp .lt 6, 3) := by decide +kernel
theorem dX9_record_23 : decode cX9_record 23 = .ok (.bipush (-2), 2) := by decide +kernel
theorem dX9_record_25 : decode cX9_record 25 = .ok (.ireturn, 1) := by decide +kernel
theorem dX9_record_26 : decode cX9_record 26 = .ok (.iload_n 1, 1) := by decide +kernel
theorem dX9_record_27 : decode cX9_record 27 = .ok (.aload_n 0, 1) := by decide +kernel
theorem dX9_record_28 : decode cX9_record 28 = .ok (.getfield 48, 3) := by decide +kernel
theorem dX9_record_31 : decode cX9_record 31 = .ok (.getfield 266, 3) := by decide +kernel
theorem dX9_record_34 : decode cX9_record 34 = .ok (.getfield 275, 3) := by decide +kernel
theorem dX9_record_37 : decode cX9_record 37 = .ok (.if_icmp .ge 20, 3) := by decide +kernel
theorem dX9_record_40 : decode cX9_record 40 = .ok (.aload_n 0, 1) := by decide +kernel
theorem dX9_record_41 : decode cX9_record 41 = .ok (.getfield 48, 3) := by decide +kernel
theorem dX9_record_44 : decode cX9_record 44 = .ok (.getfield 266, 3) := by decide +kernel
theorem dX9_record_47 : decode cX9_record 47 = .ok (.getfield 278, 3) := by decide +kernel
theorem dX9_record_50 : decode cX9_record 50 = .ok (.iload_n 1, 1) := by decide +kernel
theorem dX9_record_51 : decode cX9_record 51 = .ok (.aaload, 1) := by decide +kernel
theorem dX9_record_52 : decode cX9_record 52 = .ok (.iload_n 2, 1) := by decide +kernel
theorem dX9_record_53 : decode cX9_record 53 = .ok (.iaload, 1) := by decide +kernel
theorem dX9_record_54 : decode cX9_record 54 = .ok (.goto 4, 3) := by decide +kernel
theorem dX9_record_57 : decode cX9_record 57 = .ok (.iconst (-1), 1) := by decide +kernel
theorem dX9_record_58 : decode cX9_record 58 = .ok (.ireturn, 1) := by decide +kernel
theorem dX9_ledger_0 : decode cX9_ledger 0 = .ok (.aload_n 0, 1) := by decide +kernel
theorem dX9_ledger_1 : decode cX9_ledger 1 = .ok (.getfield 19, 3) := by decide +kernel
theorem dX9_ledger_4 : decode cX9_ledger 4 = .ok (.getfield 90, 3) := by decide +kernel
theorem dX9_ledger_7 : decode cX9_ledger 7 = .ok (.ifCond .eq 12, 3) := by decide +kernel
theorem dX9_ledger_10 : decode cX9_ledger 10 = .ok (.iload_n 1, 1) := by decide +kernel
theorem dX9_ledger_11 : decode cX9_ledger 11 = .ok (.ifCond .lt 8, 3) := by decide +kernel
theorem dX9_ledger_14 : decode cX9_ledger 14 = .ok (.iload_n 1, 1) := by decide +kernel
theorem dX9_ledger_15 : decode cX9_ledger 15 = .ok (.iconst 1, 1) := by decide +kernel
theorem dX9_ledger_16 : decode cX9_ledger 16 = .ok (.if_icmp .le 6, 3) := by decide +kernel
theorem dX9_ledger_19 : decode cX9_ledger 19 = .ok (.bipush (-2), 2) := by decide +kernel
theorem dX9_ledger_21 : decode cX9_ledger 21 = .ok (.ireturn, 1) := by decide +kernel
theorem dX9_ledger_22 : decode cX9_ledger 22 = .ok (.aload_n 0, 1) := by decide +kernel
theorem dX9_ledger_23 : decode cX9_ledger 23 = .ok (.getfield 48, 3) := by decide +kernel
theorem dX9_ledger_26 : decode cX9_ledger 26 = .ok (.getfield 266, 3) := by decide +kernel
theorem dX9_ledger_29 : decode cX9_ledger 29 = .ok (.bipush 6, 2) := by decide +kernel
theorem dX9_ledger_31 : decode cX9_ledger 31 = .ok (.invokevirtual 281, 3) := by decide +kernel
theorem dX9_ledger_34 : decode cX9_ledger 34 = .ok (.aload_n 0, 1) := by decide +kernel
theorem dX9_ledger_35 : decode cX9_ledger 35 = .ok (.getfield 48, 3) := by decide +kernel
theorem dX9_ledger_38 : decode cX9_ledger 38 = .ok (.getfield 266, 3) := by decide +kernel
theorem dX9_ledger_41 : decode cX9_ledger 41 = .ok (.bipush 7, 2) := by decide +kernel
theorem dX9_ledger_43 : decode cX9_ledger 43 = .ok (.invokevirtual 281, 3) := by decide +kernel
theorem dX9_ledger_46 : decode cX9_ledger 46 = .ok (.iadd, 1) := by decide +kernel
theorem dX9_ledger_47 : decode cX9_ledger 47 = .ok (.istore_n 2, 1) := by decide +kernel
theorem dX9_ledger_48 : decode cX9_ledger 48 = .ok (.iload_n 1, 1) := by decide +kernel
theorem dX9_ledger_49 : decode cX9_ledger 49 = .ok (.iconst 1, 1) := by decide +kernel
theorem dX9_ledger_50 : decode cX9_ledger 50 = .ok (.if_icmp .ne 7, 3) := by decide +kernel
theorem dX9_ledger_53 : decode cX9_ledger 53 = .ok (.iload_n 2, 1) := by decide +kernel
theorem dX9_ledger_54 : decode cX9_ledger 54 = .ok (.goto 15, 3) := by decide +kernel
theorem dX9_ledger_57 : decode cX9_ledger 57 = .ok (.aload_n 0, 1) := by decide +kernel
theorem dX9_ledger_58 : decode cX9_ledger 58 = .ok (.getfield 48, 3) := by decide +kernel
theorem dX9_ledger_61 : decode cX9_ledger 61 = .ok (.getfield 266, 3) := by decide +kernel
theorem dX9_ledger_64 : decode cX9_ledger 64 = .ok (.getfield 275, 3) := by decide +kernel
theorem dX9_ledger_67 : decode cX9_ledger 67 = .ok (.iload_n 2, 1) := by decide +kernel
theorem dX9_ledger_68 : decode cX9_ledger 68 = .ok (.isub, 1) := by decide +kernel
theorem dX9_ledger_69 : decode cX9_ledger 69 = .ok (.ireturn, 1) := by decide +kernel
theorem dX9_kinds_0 : decode cX9_kinds 0 = .ok (.aload_n 0, 1) := by decide +kernel
theorem dX9_kinds_1 : decode cX9_kinds 1 = .ok (.getfield 19, 3) := by decide +kernel
theorem dX9_kinds_4 : decode cX9_kinds 4 = .ok (.getfield 90, 3) := by decide +kernel
theorem dX9_kinds_7 : decode cX9_kinds 7 = .ok (.ifCond .eq 14, 3) := by decide +kernel
theorem dX9_kinds_10 : decode cX9_kinds 10 = .ok (.iload_n 1, 1) := by decide +kernel
theorem dX9_kinds_11 : decode cX9_kinds 11 = .ok (.iconst 1, 1) := by decide +kernel
theorem dX9_kinds_12 : decode cX9_kinds 12 = .ok (.if_icmp .lt 9, 3) := by decide +kernel
theorem dX9_kinds_15 : decode cX9_kinds 15 = .ok (.iload_n 1, 1) := by decide +kernel
theorem dX9_kinds_16 : decode cX9_kinds 16 = .ok (.bipush 7, 2) := by decide +kernel
theorem dX9_kinds_18 : decode cX9_kinds 18 = .ok (.if_icmp .le 6, 3) := by decide +kernel
theorem dX9_kinds_21 : decode cX9_kinds 21 = .ok (.bipush (-2), 2) := by decide +kernel
theorem dX9_kinds_23 : decode cX9_kinds 23 = .ok (.ireturn, 1) := by decide +kernel
theorem dX9_kinds_24 : decode cX9_kinds 24 = .ok (.aload_n 0, 1) := by decide +kernel
theorem dX9_kinds_25 : decode cX9_kinds 25 = .ok (.getfield 48, 3) := by decide +kernel
theorem dX9_kinds_28 : decode cX9_kinds 28 = .ok (.getfield 266, 3) := by decide +kernel
theorem dX9_kinds_31 : decode cX9_kinds 31 = .ok (.iload_n 1, 1) := by decide +kernel
theorem dX9_kinds_32 : decode cX9_kinds 32 = .ok (.invokevirtual 281, 3) := by decide +kernel
theorem dX9_kinds_35 : decode cX9_kinds 35 = .ok (.ireturn, 1) := by decide +kernel
theorem dX9_levels_0 : decode cX9_levels 0 = .ok (.aload_n 0, 1) := by decide +kernel
theorem dX9_levels_1 : decode cX9_levels 1 = .ok (.iload_n 2, 1) := by decide +kernel
theorem dX9_levels_2 : decode cX9_levels 2 = .ok (.invokevirtual 205, 3) := by decide +kernel
theorem dX9_levels_5 : decode cX9_levels 5 = .ok (.ifCond .eq 12, 3) := by decide +kernel
theorem dX9_levels_8 : decode cX9_levels 8 = .ok (.iload_n 1, 1) := by decide +kernel
theorem dX9_levels_9 : decode cX9_levels 9 = .ok (.ifCond .lt 8, 3) := by decide +kernel
theorem dX9_levels_12 : decode cX9_levels 12 = .ok (.iload_n 1, 1) := by decide +kernel
theorem dX9_levels_13 : decode cX9_levels 13 = .ok (.iconst 3, 1) := by decide +kernel
theorem dX9_levels_14 : decode cX9_levels 14 = .ok (.if_icmp .le 6, 3) := by decide +kernel
theorem dX9_levels_17 : decode cX9_levels 17 = .ok (.bipush (-2), 2) := by decide +kernel
theorem dX9_levels_19 : decode cX9_levels 19 = .ok (.ireturn, 1) := by decide +kernel
theorem dX9_levels_20 : decode cX9_levels 20 = .ok (.aload_n 0, 1) := by decide +kernel
theorem dX9_levels_21 : decode cX9_levels 21 = .ok (.getfield 48, 3) := by decide +kernel
theorem dX9_levels_24 : decode cX9_levels 24 = .ok (.getfield 266, 3) := by decide +kernel
theorem dX9_levels_27 : decode cX9_levels 27 = .ok (.iload_n 1, 1) := by decide +kernel
theorem dX9_levels_28 : decode cX9_levels 28 = .ok (.iload_n 2, 1) := by decide +kernel
theorem dX9_levels_29 : decode cX9_levels 29 = .ok (.invokevirtual 284, 3) := by decide +kernel
theorem dX9_levels_32 : decode cX9_levels 32 = .ok (.ireturn, 1) := by decide +kernel
theorem dX9_halts_0 : decode cX9_halts 0 = .ok (.aload_n 0, 1) := by decide +kernel
theorem dX9_halts_1 : decode cX9_halts 1 = .ok (.getfield 19, 3) := by decide +kernel
theorem dX9_halts_4 : decode cX9_halts 4 = .ok (.getfield 90, 3) := by decide +kernel
theorem dX9_halts_7 : decode cX9_halts 7 = .ok (.ifCond .ne 8, 3) := by decide +kernel
theorem dX9_halts_10 : decode cX9_halts 10 = .ok (.bipush (-2), 2) := by decide +kernel
theorem dX9_halts_12 : decode cX9_halts 12 = .ok (.goto 10, 3) := by decide +kernel
theorem dX9_halts_15 : decode cX9_halts 15 = .ok (.aload_n 0, 1) := by decide +kernel
theorem dX9_halts_16 : decode cX9_halts 16 = .ok (.getfield 48, 3) := by decide +kernel
theorem dX9_halts_19 : decode cX9_halts 19 = .ok (.getfield 287, 3) := by decide +kernel
theorem dX9_halts_22 : decode cX9_halts 22 = .ok (.ireturn, 1) := by decide +kernel
theorem dX9_sleeps_0 : decode cX9_sleeps 0 = .ok (.aload_n 0, 1) := by decide +kernel
theorem dX9_sleeps_1 : decode cX9_sleeps 1 = .ok (.getfield 19, 3) := by decide +kernel
theorem dX9_sleeps_4 : decode cX9_sleeps 4 = .ok (.iload_n 1, 1) := by decide +kernel
theorem dX9_sleeps_5 : decode cX9_sleeps 5 = .ok (.invokevirtual 118, 3) := by decide +kernel
theorem dX9_sleeps_8 : decode cX9_sleeps 8 = .ok (.ifCond .eq 11, 3) := by decide +kernel
theorem dX9_sleeps_11 : decode cX9_sleeps 11 = .ok (.aload_n 0, 1) := by decide +kernel
theorem dX9_sleeps_12 : decode cX9_sleeps 12 = .ok (.iload_n 2, 1) := by decide +kernel
theorem dX9_sleeps_13 : decode cX9_sleeps 13 = .ok (.invokevirtual 205, 3) := by decide +kernel
theorem dX9_sleeps_16 : decode cX9_sleeps 16 = .ok (.ifCond .ne 6, 3) := by decide +kernel
theorem dX9_sleeps_19 : decode cX9_sleeps 19 = .ok (.bipush (-2), 2) := by decide +kernel
theorem dX9_sleeps_21 : decode cX9_sleeps 21 = .ok (.ireturn, 1) := by decide +kernel
theorem dX9_sleeps_22 : decode cX9_sleeps 22 = .ok (.aload_n 0, 1) := by decide +kernel
theorem dX9_sleeps_23 : decode cX9_sleeps 23 = .ok (.getfield 52, 3) := by decide +kernel
theorem dX9_sleeps_26 : decode cX9_sleeps 26 = .ok (.iload_n 2, 1) := by decide +kernel
theorem dX9_sleeps_27 : decode cX9_sleeps 27 = .ok (.invokevirtual 199, 3) := by decide +kernel
theorem dX9_sleeps_30 : decode cX9_sleeps 30 = .ok (.aload_n 0, 1) := by decide +kernel
theorem dX9_sleeps_31 : decode cX9_sleeps 31 = .ok (.getfield 52, 3) := by decide +kernel
theorem dX9_sleeps_34 : decode cX9_sleeps 34 = .ok (.iload_n 1, 1) := by decide +kernel
theorem dX9_sleeps_35 : decode cX9_sleeps 35 = .ok (.invokevirtual 290, 3) := by decide +kernel
theorem dX9_sleeps_38 : decode cX9_sleeps 38 = .ok (.ifCond .eq 7, 3) := by decide +kernel
theorem dX9_sleeps_41 : decode cX9_sleeps 41 = .ok (.iconst 1, 1) := by decide +kernel
theorem dX9_sleeps_42 : decode cX9_sleeps 42 = .ok (.goto 4, 3) := by decide +kernel
theorem dX9_sleeps_45 : decode cX9_sleeps 45 = .ok (.iconst 0, 1) := by decide +kernel
theorem dX9_sleeps_46 : decode cX9_sleeps 46 = .ok (.ireturn, 1) := by decide +kernel
theorem dX9_caught_0 : decode cX9_caught 0 = .ok (.aload_n 0, 1) := by decide +kernel
theorem dX9_caught_1 : decode cX9_caught 1 = .ok (.getfield 19, 3) := by decide +kernel
theorem dX9_caught_4 : decode cX9_caught 4 = .ok (.iload_n 1, 1) := by decide +kernel
theorem dX9_caught_5 : decode cX9_caught 5 = .ok (.invokevirtual 125, 3) := by decide +kernel
theorem dX9_caught_8 : decode cX9_caught 8 = .ok (.ifCond .eq 14, 3) := by decide +kernel
theorem dX9_caught_11 : decode cX9_caught 11 = .ok (.aload_n 0, 1) := by decide +kernel
theorem dX9_caught_12 : decode cX9_caught 12 = .ok (.getfield 48, 3) := by decide +kernel
theorem dX9_caught_15 : decode cX9_caught 15 = .ok (.iload_n 1, 1) := by decide +kernel
theorem dX9_caught_16 : decode cX9_caught 16 = .ok (.invokevirtual 293, 3) := by decide +kernel
theorem dX9_caught_19 : decode cX9_caught 19 = .ok (.goto 5, 3) := by decide +kernel
theorem dX9_caught_22 : decode cX9_caught 22 = .ok (.bipush (-2), 2) := by decide +kernel
theorem dX9_caught_24 : decode cX9_caught 24 = .ok (.ireturn, 1) := by decide +kernel
theorem dX9_without_0 : decode cX9_without 0 = .ok (.aload_n 0, 1) := by decide +kernel
theorem dX9_without_1 : decode cX9_without 1 = .ok (.getfield 19, 3) := by decide +kernel
theorem dX9_without_4 : decode cX9_without 4 = .ok (.iload_n 1, 1) := by decide +kernel
theorem dX9_without_5 : decode cX9_without 5 = .ok (.invokevirtual 125, 3) := by decide +kernel
theorem dX9_without_8 : decode cX9_without 8 = .ok (.ifCond .eq 18, 3) := by decide +kernel
theorem dX9_without_11 : decode cX9_without 11 = .ok (.aload_n 0, 1) := by decide +kernel
theorem dX9_without_12 : decode cX9_without 12 = .ok (.getfield 58, 3) := by decide +kernel
theorem dX9_without_15 : decode cX9_without 15 = .ok (.aload_n 0, 1) := by decide +kernel
theorem dX9_without_16 : decode cX9_without 16 = .ok (.getfield 19, 3) := by decide +kernel
theorem dX9_without_19 : decode cX9_without 19 = .ok (.iload_n 1, 1) := by decide +kernel
theorem dX9_without_20 : decode cX9_without 20 = .ok (.invokevirtual 296, 3) := by decide +kernel
theorem dX9_without_23 : decode cX9_without 23 = .ok (.goto 5, 3) := by decide +kernel
theorem dX9_without_26 : decode cX9_without 26 = .ok (.bipush (-2), 2) := by decide +kernel
theorem dX9_without_28 : decode cX9_without 28 = .ok (.ireturn, 1) := by decide +kernel
theorem dX9_blame_0 : decode cX9_blame 0 = .ok (.aload_n 0, 1) := by decide +kernel
theorem dX9_blame_1 : decode cX9_blame 1 = .ok (.getfield 19, 3) := by decide +kernel
theorem dX9_blame_4 : decode cX9_blame 4 = .ok (.getfield 90, 3) := by decide +kernel
theorem dX9_blame_7 : decode cX9_blame 7 = .ok (.ifCond .ne 6, 3) := by decide +kernel
theorem dX9_blame_10 : decode cX9_blame 10 = .ok (.bipush (-2), 2) := by decide +kernel
theorem dX9_blame_12 : decode cX9_blame 12 = .ok (.ireturn, 1) := by decide +kernel
theorem dX9_blame_13 : decode cX9_blame 13 = .ok (.iconst (-1), 1) := by decide +kernel
theorem dX9_blame_14 : decode cX9_blame 14 = .ok (.istore_n 1, 1) := by decide +kernel
theorem dX9_blame_15 : decode cX9_blame 15 = .ok (.aload_n 0, 1) := by decide +kernel
theorem dX9_blame_16 : decode cX9_blame 16 = .ok (.getfield 48, 3) := by decide +kernel
theorem dX9_blame_19 : decode cX9_blame 19 = .ok (.getfield 266, 3) := by decide +kernel
theorem dX9_blame_22 : decode cX9_blame 22 = .ok (.getfield 275, 3) := by decide +kernel
theorem dX9_blame_25 : decode cX9_blame 25 = .ok (.istore_n 2, 1) := by decide +kernel
theorem dX9_blame_26 : decode cX9_blame 26 = .ok (.iconst 0, 1) := by decide +kernel
theorem dX9_blame_27 : decode cX9_blame 27 = .ok (.istore_n 3, 1) := by decide +kernel
theorem dX9_blame_28 : decode cX9_blame 28 = .ok (.iload_n 3, 1) := by decide +kernel
theorem dX9_blame_29 : decode cX9_blame 29 = .ok (.aload_n 0, 1) := by decide +kernel
theorem dX9_blame_30 : decode cX9_blame 30 = .ok (.getfield 19, 3) := by decide +kernel
theorem dX9_blame_33 : decode cX9_blame 33 = .ok (.getfield 299, 3) := by decide +kernel
theorem dX9_blame_36 : decode cX9_blame 36 = .ok (.aload_n 0, 1) := by decide +kernel
theorem dX9_blame_37 : decode cX9_blame 37 = .ok (.getfield 19, 3) := by decide +kernel
theorem dX9_blame_40 : decode cX9_blame 40 = .ok (.getfield 302, 3) := by decide +kernel
theorem dX9_blame_43 : decode cX9_blame 43 = .ok (.iadd, 1) := by decide +kernel
theorem dX9_blame_44 : decode cX9_blame 44 = .ok (.if_icmp .ge 34, 3) := by decide +kernel
theorem dX9_blame_47 : decode cX9_blame 47 = .ok (.aload_n 0, 1) := by decide +kernel
theorem dX9_blame_48 : decode cX9_blame 48 = .ok (.getfield 58, 3) := by decide +kernel
theorem dX9_blame_51 : decode cX9_blame 51 = .ok (.aload_n 0, 1) := by decide +kernel
theorem dX9_blame_52 : decode cX9_blame 52 = .ok (.getfield 19, 3) := by decide +kernel
theorem dX9_blame_55 : decode cX9_blame 55 = .ok (.iload_n 3, 1) := by decide +kernel
theorem dX9_blame_56 : decode cX9_blame 56 = .ok (.invokevirtual 296, 3) := by decide +kernel
theorem dX9_blame_59 : decode cX9_blame 59 = .ok (.istore 4, 2) := by decide +kernel
theorem dX9_blame_61 : decode cX9_blame 61 = .ok (.iload 4, 2) := by decide +kernel
theorem dX9_blame_63 : decode cX9_blame 63 = .ok (.iload_n 2, 1) := by decide +kernel
theorem dX9_blame_64 : decode cX9_blame 64 = .ok (.if_icmp .ge 8, 3) := by decide +kernel
theorem dX9_blame_67 : decode cX9_blame 67 = .ok (.iload 4, 2) := by decide +kernel
theorem dX9_blame_69 : decode cX9_blame 69 = .ok (.istore_n 2, 1) := by decide +kernel
theorem dX9_blame_70 : decode cX9_blame 70 = .ok (.iload_n 3, 1) := by decide +kernel
theorem dX9_blame_71 : decode cX9_blame 71 = .ok (.istore_n 1, 1) := by decide +kernel
theorem dX9_blame_72 : decode cX9_blame 72 = .ok (.iinc 3 1, 3) := by decide +kernel
theorem dX9_blame_75 : decode cX9_blame 75 = .ok (.goto (-47), 3) := by decide +kernel
theorem dX9_blame_78 : decode cX9_blame 78 = .ok (.iload_n 1, 1) := by decide +kernel
theorem dX9_blame_79 : decode cX9_blame 79 = .ok (.ireturn, 1) := by decide +kernel
theorem dX9_with_0 : decode cX9_with 0 = .ok (.aload_n 0, 1) := by decide +kernel
theorem dX9_with_1 : decode cX9_with 1 = .ok (.getfield 19, 3) := by decide +kernel
theorem dX9_with_4 : decode cX9_with 4 = .ok (.iload_n 1, 1) := by decide +kernel
theorem dX9_with_5 : decode cX9_with 5 = .ok (.invokevirtual 100, 3) := by decide +kernel
theorem dX9_with_8 : decode cX9_with 8 = .ok (.ifCond .eq 24, 3) := by decide +kernel
theorem dX9_with_11 : decode cX9_with 11 = .ok (.iload_n 2, 1) := by decide +kernel
theorem dX9_with_12 : decode cX9_with 12 = .ok (.ifCond .lt 20, 3) := by decide +kernel
theorem dX9_with_15 : decode cX9_with 15 = .ok (.iload_n 2, 1) := by decide +kernel
theorem dX9_with_16 : decode cX9_with 16 = .ok (.bipush 99, 2) := by decide +kernel
theorem dX9_with_18 : decode cX9_with 18 = .ok (.if_icmp .gt 14, 3) := by decide +kernel
theorem dX9_with_21 : decode cX9_with 21 = .ok (.iload_n 3, 1) := by decide +kernel
theorem dX9_with_22 : decode cX9_with 22 = .ok (.iload_n 2, 1) := by decide +kernel
theorem dX9_with_23 : decode cX9_with 23 = .ok (.if_icmp .le 9, 3) := by decide +kernel
theorem dX9_with_26 : decode cX9_with 26 = .ok (.iload_n 3, 1) := by decide +kernel
theorem dX9_with_27 : decode cX9_with 27 = .ok (.bipush 120, 2) := by decide +kernel
theorem dX9_with_29 : decode cX9_with 29 = .ok (.if_icmp .le 6, 3) := by decide +kernel
theorem dX9_with_32 : decode cX9_with 32 = .ok (.bipush (-2), 2) := by decide +kernel
theorem dX9_with_34 : decode cX9_with 34 = .ok (.ireturn, 1) := by decide +kernel
theorem dX9_with_35 : decode cX9_with 35 = .ok (.aload_n 0, 1) := by decide +kernel
theorem dX9_with_36 : decode cX9_with 36 = .ok (.getfield 58, 3) := by decide +kernel
theorem dX9_with_39 : decode cX9_with 39 = .ok (.aload_n 0, 1) := by decide +kernel
theorem dX9_with_40 : decode cX9_with 40 = .ok (.getfield 19, 3) := by decide +kernel
theorem dX9_with_43 : decode cX9_with 43 = .ok (.iload_n 1, 1) := by decide +kernel
theorem dX9_with_44 : decode cX9_with 44 = .ok (.iload_n 2, 1) := by decide +kernel
theorem dX9_with_45 : decode cX9_with 45 = .ok (.iload_n 3, 1) := by decide +kernel
theorem dX9_with_46 : decode cX9_with 46 = .ok (.invokevirtual 305, 3) := by decide +kernel
theorem dX9_with_49 : decode cX9_with 49 = .ok (.ireturn, 1) := by decide +kernel
theorem dX9_tight_0 : decode cX9_tight 0 = .ok (.aload_n 0, 1) := by decide +kernel
theorem dX9_tight_1 : decode cX9_tight 1 = .ok (.getfield 19, 3) := by decide +kernel
theorem dX9_tight_4 : decode cX9_tight 4 = .ok (.iload_n 1, 1) := by decide +kernel
theorem dX9_tight_5 : decode cX9_tight 5 = .ok (.invokevirtual 100, 3) := by decide +kernel
theorem dX9_tight_8 : decode cX9_tight 8 = .ok (.ifCond .ne 6, 3) := by decide +kernel
theorem dX9_tight_11 : decode cX9_tight 11 = .ok (.bipush (-2), 2) := by decide +kernel
theorem dX9_tight_13 : decode cX9_tight 13 = .ok (.ireturn, 1) := by decide +kernel
theorem dX9_tight_14 : decode cX9_tight 14 = .ok (.aload_n 0, 1) := by decide +kernel
theorem dX9_tight_15 : decode cX9_tight 15 = .ok (.getfield 19, 3) := by decide +kernel
theorem dX9_tight_18 : decode cX9_tight 18 = .ok (.getfield 104, 3) := by decide +kernel
theorem dX9_tight_21 : decode cX9_tight 21 = .ok (.iload_n 1, 1) := by decide +kernel
theorem dX9_tight_22 : decode cX9_tight 22 = .ok (.aaload, 1) := by decide +kernel
theorem dX9_tight_23 : decode cX9_tight 23 = .ok (.iconst 2, 1) := by decide +kernel
theorem dX9_tight_24 : decode cX9_tight 24 = .ok (.iaload, 1) := by decide +kernel
theorem dX9_tight_25 : decode cX9_tight 25 = .ok (.istore_n 2, 1) := by decide +kernel
theorem dX9_tight_26 : decode cX9_tight 26 = .ok (.aload_n 0, 1) := by decide +kernel
theorem dX9_tight_27 : decode cX9_tight 27 = .ok (.getfield 19, 3) := by decide +kernel
theorem dX9_tight_30 : decode cX9_tight 30 = .ok (.getfield 104, 3) := by decide +kernel
theorem dX9_tight_33 : decode cX9_tight 33 = .ok (.iload_n 1, 1) := by decide +kernel
theorem dX9_tight_34 : decode cX9_tight 34 = .ok (.aaload, 1) := by decide +kernel
theorem dX9_tight_35 : decode cX9_tight 35 = .ok (.iconst 3, 1) := by decide +kernel
theorem dX9_tight_36 : decode cX9_tight 36 = .ok (.iaload, 1) := by decide +kernel
theorem dX9_tight_37 : decode cX9_tight 37 = .ok (.istore_n 3, 1) := by decide +kernel
theorem dX9_tight_38 : decode cX9_tight 38 = .ok (.iload_n 2, 1) := by decide +kernel
theorem dX9_tight_39 : decode cX9_tight 39 = .ok (.iconst 1, 1) := by decide +kernel
theorem dX9_tight_40 : decode cX9_tight 40 = .ok (.iadd, 1) := by decide +kernel
theorem dX9_tight_41 : decode cX9_tight 41 = .ok (.istore 4, 2) := by decide +kernel
theorem dX9_tight_43 : decode cX9_tight 43 = .ok (.iload 4, 2) := by decide +kernel
theorem dX9_tight_45 : decode cX9_tight 45 = .ok (.iload_n 3, 1) := by decide +kernel
theorem dX9_tight_46 : decode cX9_tight 46 = .ok (.if_icmp .ge 37, 3) := by decide +kernel
theorem dX9_tight_49 : decode cX9_tight 49 = .ok (.aload_n 0, 1) := by decide +kernel
theorem dX9_tight_50 : decode cX9_tight 50 = .ok (.getfield 58, 3) := by decide +kernel
theorem dX9_tight_53 : decode cX9_tight 53 = .ok (.aload_n 0, 1) := by decide +kernel
theorem dX9_tight_54 : decode cX9_tight 54 = .ok (.getfield 19, 3) := by decide +kernel
theorem dX9_tight_57 : decode cX9_tight 57 = .ok (.iload_n 1, 1) := by decide +kernel
theorem dX9_tight_58 : decode cX9_tight 58 = .ok (.iload_n 2, 1) := by decide +kernel
theorem dX9_tight_59 : decode cX9_tight 59 = .ok (.iload 4, 2) := by decide +kernel
theorem dX9_tight_61 : decode cX9_tight 61 = .ok (.invokevirtual 305, 3) := by decide +kernel
theorem dX9_tight_64 : decode cX9_tight 64 = .ok (.aload_n 0, 1) := by decide +kernel
theorem dX9_tight_65 : decode cX9_tight 65 = .ok (.getfield 48, 3) := by decide +kernel
theorem dX9_tight_68 : decode cX9_tight 68 = .ok (.getfield 266, 3) := by decide +kernel
theorem dX9_tight_71 : decode cX9_tight 71 = .ok (.getfield 275, 3) := by decide +kernel
theorem dX9_tight_74 : decode cX9_tight 74 = .ok (.if_icmp .le 9, 3) := by decide +kernel
theorem dX9_tight_77 : decode cX9_tight 77 = .ok (.iinc 4 1, 3) := by decide +kernel
theorem dX9_tight_80 : decode cX9_tight 80 = .ok (.goto (-37), 3) := by decide +kernel
theorem dX9_tight_83 : decode cX9_tight 83 = .ok (.iload 4, 2) := by decide +kernel
theorem dX9_tight_85 : decode cX9_tight 85 = .ok (.ireturn, 1) := by decide +kernel
theorem dX9_loose_0 : decode cX9_loose 0 = .ok (.aload_n 0, 1) := by decide +kernel
theorem dX9_loose_1 : decode cX9_loose 1 = .ok (.getfield 19, 3) := by decide +kernel
theorem dX9_loose_4 : decode cX9_loose 4 = .ok (.iload_n 1, 1) := by decide +kernel
theorem dX9_loose_5 : decode cX9_loose 5 = .ok (.invokevirtual 100, 3) := by decide +kernel
theorem dX9_loose_8 : decode cX9_loose 8 = .ok (.ifCond .ne 6, 3) := by decide +kernel
theorem dX9_loose_11 : decode cX9_loose 11 = .ok (.bipush (-2), 2) := by decide +kernel
theorem dX9_loose_13 : decode cX9_loose 13 = .ok (.ireturn, 1) := by decide +kernel
theorem dX9_loose_14 : decode cX9_loose 14 = .ok (.aload_n 0, 1) := by decide +kernel
theorem dX9_loose_15 : decode cX9_loose 15 = .ok (.getfield 19, 3) := by decide +kernel
theorem dX9_loose_18 : decode cX9_loose 18 = .ok (.getfield 104, 3) := by decide +kernel
theorem dX9_loose_21 : decode cX9_loose 21 = .ok (.iload_n 1, 1) := by decide +kernel
theorem dX9_loose_22 : decode cX9_loose 22 = .ok (.aaload, 1) := by decide +kernel
theorem dX9_loose_23 : decode cX9_loose 23 = .ok (.iconst 2, 1) := by decide +kernel
theorem dX9_loose_24 : decode cX9_loose 24 = .ok (.iaload, 1) := by decide +kernel
theorem dX9_loose_25 : decode cX9_loose 25 = .ok (.istore_n 2, 1) := by decide +kernel
theorem dX9_loose_26 : decode cX9_loose 26 = .ok (.aload_n 0, 1) := by decide +kernel
theorem dX9_loose_27 : decode cX9_loose 27 = .ok (.getfield 19, 3) := by decide +kernel
theorem dX9_loose_30 : decode cX9_loose 30 = .ok (.getfield 104, 3) := by decide +kernel
theorem dX9_loose_33 : decode cX9_loose 33 = .ok (.iload_n 1, 1) := by decide +kernel
theorem dX9_loose_34 : decode cX9_loose 34 = .ok (.aaload, 1) := by decide +kernel
theorem dX9_loose_35 : decode cX9_loose 35 = .ok (.iconst 3, 1) := by decide +kernel
theorem dX9_loose_36 : decode cX9_loose 36 = .ok (.iaload, 1) := by decide +kernel
theorem dX9_loose_37 : decode cX9_loose 37 = .ok (.istore_n 3, 1) := by decide +kernel
theorem dX9_loose_38 : decode cX9_loose 38 = .ok (.iload_n 3, 1) := by decide +kernel
theorem dX9_loose_39 : decode cX9_loose 39 = .ok (.iconst 1, 1) := by decide +kernel
theorem dX9_loose_40 : decode cX9_loose 40 = .ok (.isub, 1) := by decide +kernel
theorem dX9_loose_41 : decode cX9_loose 41 = .ok (.bipush 99, 2) := by decide +kernel
theorem dX9_loose_43 : decode cX9_loose 43 = .ok (.invokestatic 308, 3) := by decide +kernel
theorem dX9_loose_46 : decode cX9_loose 46 = .ok (.istore 4, 2) := by decide +kernel
theorem dX9_loose_48 : decode cX9_loose 48 = .ok (.iload 4, 2) := by decide +kernel
theorem dX9_loose_50 : decode cX9_loose 50 = .ok (.iload_n 2, 1) := by decide +kernel
theorem dX9_loose_51 : decode cX9_loose 51 = .ok (.if_icmp .le 37, 3) := by decide +kernel
theorem dX9_loose_54 : decode cX9_loose 54 = .ok (.aload_n 0, 1) := by decide +kernel
theorem dX9_loose_55 : decode cX9_loose 55 = .ok (.getfield 58, 3) := by decide +kernel
theorem dX9_loose_58 : decode cX9_loose 58 = .ok (.aload_n 0, 1) := by decide +kernel
theorem dX9_loose_59 : decode cX9_loose 59 = .ok (.getfield 19, 3) := by decide +kernel
theorem dX9_loose_62 : decode cX9_loose 62 = .ok (.iload_n 1, 1) := by decide +kernel
theorem dX9_loose_63 : decode cX9_loose 63 = .ok (.iload 4, 2) := by decide +kernel
theorem dX9_loose_65 : decode cX9_loose 65 = .ok (.iload_n 3, 1) := by decide +kernel
theorem dX9_loose_66 : decode cX9_loose 66 = .ok (.invokevirtual 305, 3) := by decide +kernel
theorem dX9_loose_69 : decode cX9_loose 69 = .ok (.aload_n 0, 1) := by decide +kernel
theorem dX9_loose_70 : decode cX9_loose 70 = .ok (.getfield 48, 3) := by decide +kernel
theorem dX9_loose_73 : decode cX9_loose 73 = .ok (.getfield 266, 3) := by decide +kernel
theorem dX9_loose_76 : decode cX9_loose 76 = .ok (.getfield 275, 3) := by decide +kernel
theorem dX9_loose_79 : decode cX9_loose 79 = .ok (.if_icmp .le 9, 3) := by decide +kernel
theorem dX9_loose_82 : decode cX9_loose 82 = .ok (.iinc 4 (-1), 3) := by decide +kernel
theorem dX9_loose_85 : decode cX9_loose 85 = .ok (.goto (-37), 3) := by decide +kernel
theorem dX9_loose_88 : decode cX9_loose 88 = .ok (.iload 4, 2) := by decide +kernel
theorem dX9_loose_90 : decode cX9_loose 90 = .ok (.ireturn, 1) := by decide +kernel
theorem dX9_longest_0 : decode cX9_longest 0 = .ok (.aload_n 0, 1) := by decide +kernel
theorem dX9_longest_1 : decode cX9_longest 1 = .ok (.getfield 19, 3) := by decide +kernel
theorem dX9_longest_4 : decode cX9_longest 4 = .ok (.iload_n 1, 1) := by decide +kernel
theorem dX9_longest_5 : decode cX9_longest 5 = .ok (.invokevirtual 100, 3) := by decide +kernel
theorem dX9_longest_8 : decode cX9_longest 8 = .ok (.ifCond .eq 12, 3) := by decide +kernel
theorem dX9_longest_11 : decode cX9_longest 11 = .ok (.iload_n 2, 1) := by decide +kernel
theorem dX9_longest_12 : decode cX9_longest 12 = .ok (.ifCond .lt 8, 3) := by decide +kernel
theorem dX9_longest_15 : decode cX9_longest 15 = .ok (.iload_n 2, 1) := by decide +kernel
theorem dX9_longest_16 : decode cX9_longest 16 = .ok (.iconst 4, 1) := by decide +kernel
theorem dX9_longest_17 : decode cX9_longest 17 = .ok (.if_icmp .le 6, 3) := by decide +kernel
theorem dX9_longest_20 : decode cX9_longest 20 = .ok (.bipush (-2), 2) := by decide +kernel
theorem dX9_longest_22 : decode cX9_longest 22 = .ok (.ireturn, 1) := by decide +kernel
theorem dX9_longest_23 : decode cX9_longest 23 = .ok (.aload_n 0, 1) := by decide +kernel
theorem dX9_longest_24 : decode cX9_longest 24 = .ok (.getfield 58, 3) := by decide +kernel
theorem dX9_longest_27 : decode cX9_longest 27 = .ok (.aload_n 0, 1) := by decide +kernel
theorem dX9_longest_28 : decode cX9_longest 28 = .ok (.getfield 48, 3) := by decide +kernel
theorem dX9_longest_31 : decode cX9_longest 31 = .ok (.aload_n 0, 1) := by decide +kernel
theorem dX9_longest_32 : decode cX9_longest 32 = .ok (.getfield 52, 3) := by decide +kernel
theorem dX9_longest_35 : decode cX9_longest 35 = .ok (.iload_n 1, 1) := by decide +kernel
theorem dX9_longest_36 : decode cX9_longest 36 = .ok (.iload_n 2, 1) := by decide +kernel
theorem dX9_longest_37 : decode cX9_longest 37 = .ok (.invokevirtual 313, 3) := by decide +kernel
theorem dX9_longest_40 : decode cX9_longest 40 = .ok (.aload_n 0, 1) := by decide +kernel
theorem dX9_longest_41 : decode cX9_longest 41 = .ok (.getfield 58, 3) := by decide +kernel
theorem dX9_longest_44 : decode cX9_longest 44 = .ok (.getfield 317, 3) := by decide +kernel
theorem dX9_longest_47 : decode cX9_longest 47 = .ok (.iload_n 1, 1) := by decide +kernel
theorem dX9_longest_48 : decode cX9_longest 48 = .ok (.aaload, 1) := by decide +kernel
theorem dX9_longest_49 : decode cX9_longest 49 = .ok (.iload_n 2, 1) := by decide +kernel
theorem dX9_longest_50 : decode cX9_longest 50 = .ok (.iaload, 1) := by decide +kernel
theorem dX9_longest_51 : decode cX9_longest 51 = .ok (.ireturn, 1) := by decide +kernel
theorem dX9_silent_0 : decode cX9_silent 0 = .ok (.aload_n 0, 1) := by decide +kernel
theorem dX9_silent_1 : decode cX9_silent 1 = .ok (.getfield 19, 3) := by decide +kernel
theorem dX9_silent_4 : decode cX9_silent 4 = .ok (.iload_n 1, 1) := by decide +kernel
theorem dX9_silent_5 : decode cX9_silent 5 = .ok (.invokevirtual 100, 3) := by decide +kernel
theorem dX9_silent_8 : decode cX9_silent 8 = .ok (.ifCond .eq 12, 3) := by decide +kernel
theorem dX9_silent_11 : decode cX9_silent 11 = .ok (.iload_n 2, 1) := by decide +kernel
theorem dX9_silent_12 : decode cX9_silent 12 = .ok (.ifCond .lt 8, 3) := by decide +kernel
theorem dX9_silent_15 : decode cX9_silent 15 = .ok (.iload_n 2, 1) := by decide +kernel
theorem dX9_silent_16 : decode cX9_silent 16 = .ok (.iconst 4, 1) := by decide +kernel
theorem dX9_silent_17 : decode cX9_silent 17 = .ok (.if_icmp .le 6, 3) := by decide +kernel
theorem dX9_silent_20 : decode cX9_silent 20 = .ok (.bipush (-2), 2) := by decide +kernel
theorem dX9_silent_22 : decode cX9_silent 22 = .ok (.ireturn, 1) := by decide +kernel
theorem dX9_silent_23 : decode cX9_silent 23 = .ok (.aload_n 0, 1) := by decide +kernel
theorem dX9_silent_24 : decode cX9_silent 24 = .ok (.getfield 58, 3) := by decide +kernel
theorem dX9_silent_27 : decode cX9_silent 27 = .ok (.aload_n 0, 1) := by decide +kernel
theorem dX9_silent_28 : decode cX9_silent 28 = .ok (.getfield 48, 3) := by decide +kernel
theorem dX9_silent_31 : decode cX9_silent 31 = .ok (.aload_n 0, 1) := by decide +kernel
theorem dX9_silent_32 : decode cX9_silent 32 = .ok (.getfield 52, 3) := by decide +kernel
theorem dX9_silent_35 : decode cX9_silent 35 = .ok (.iload_n 1, 1) := by decide +kernel
theorem dX9_silent_36 : decode cX9_silent 36 = .ok (.iload_n 2, 1) := by decide +kernel
theorem dX9_silent_37 : decode cX9_silent 37 = .ok (.invokevirtual 313, 3) := by decide +kernel
theorem dX9_silent_40 : decode cX9_silent 40 = .ok (.aload_n 0, 1) := by decide +kernel
theorem dX9_silent_41 : decode cX9_silent 41 = .ok (.getfield 58, 3) := by decide +kernel
theorem dX9_silent_44 : decode cX9_silent 44 = .ok (.getfield 320, 3) := by decide +kernel
theorem dX9_silent_47 : decode cX9_silent 47 = .ok (.iload_n 1, 1) := by decide +kernel
theorem dX9_silent_48 : decode cX9_silent 48 = .ok (.aaload, 1) := by decide +kernel
theorem dX9_silent_49 : decode cX9_silent 49 = .ok (.iload_n 2, 1) := by decide +kernel
theorem dX9_silent_50 : decode cX9_silent 50 = .ok (.iaload, 1) := by decide +kernel
theorem dX9_silent_51 : decode cX9_silent 51 = .ok (.ireturn, 1) := by decide +kernel
theorem dX9_inject_0 : decode cX9_inject 0 = .ok (.aload_n 0, 1) := by decide +kernel
theorem dX9_inject_1 : decode cX9_inject 1 = .ok (.getfield 19, 3) := by decide +kernel
theorem dX9_inject_4 : decode cX9_inject 4 = .ok (.iload_n 1, 1) := by decide +kernel
theorem dX9_inject_5 : decode cX9_inject 5 = .ok (.iload_n 2, 1) := by decide +kernel
theorem dX9_inject_6 : decode cX9_inject 6 = .ok (.iload_n 3, 1) := by decide +kernel
theorem dX9_inject_7 : decode cX9_inject 7 = .ok (.iload 4, 2) := by decide +kernel
theorem dX9_inject_9 : decode cX9_inject 9 = .ok (.iload 5, 2) := by decide +kernel
theorem dX9_inject_11 : decode cX9_inject 11 = .ok (.invokevirtual 323, 3) := by decide +kernel
theorem dX9_inject_14 : decode cX9_inject 14 = .ok (.ifCond .ne 6, 3) := by decide +kernel
theorem dX9_inject_17 : decode cX9_inject 17 = .ok (.bipush (-2), 2) := by decide +kernel
theorem dX9_inject_19 : decode cX9_inject 19 = .ok (.ireturn, 1) := by decide +kernel
theorem dX9_inject_20 : decode cX9_inject 20 = .ok (.aload_n 0, 1) := by decide +kernel
theorem dX9_inject_21 : decode cX9_inject 21 = .ok (.getfield 19, 3) := by decide +kernel
theorem dX9_inject_24 : decode cX9_inject 24 = .ok (.getfield 302, 3) := by decide +kernel
theorem dX9_inject_27 : decode cX9_inject 27 = .ok (.bipush 10, 2) := by decide +kernel
theorem dX9_inject_29 : decode cX9_inject 29 = .ok (.if_icmp .lt 6, 3) := by decide +kernel
theorem dX9_inject_32 : decode cX9_inject 32 = .ok (.bipush (-5), 2) := by decide +kernel
theorem dX9_inject_34 : decode cX9_inject 34 = .ok (.ireturn, 1) := by decide +kernel
theorem dX9_inject_35 : decode cX9_inject 35 = .ok (.aload_n 0, 1) := by decide +kernel
theorem dX9_inject_36 : decode cX9_inject 36 = .ok (.getfield 19, 3) := by decide +kernel
theorem dX9_inject_39 : decode cX9_inject 39 = .ok (.aload_n 0, 1) := by decide +kernel
theorem dX9_inject_40 : decode cX9_inject 40 = .ok (.getfield 19, 3) := by decide +kernel
theorem dX9_inject_43 : decode cX9_inject 43 = .ok (.getfield 299, 3) := by decide +kernel
theorem dX9_inject_46 : decode cX9_inject 46 = .ok (.aload_n 0, 1) := by decide +kernel
theorem dX9_inject_47 : decode cX9_inject 47 = .ok (.getfield 19, 3) := by decide +kernel
theorem dX9_inject_50 : decode cX9_inject 50 = .ok (.getfield 302, 3) := by decide +kernel
theorem dX9_inject_53 : decode cX9_inject 53 = .ok (.iadd, 1) := by decide +kernel
theorem dX9_inject_54 : decode cX9_inject 54 = .ok (.iload_n 1, 1) := by decide +kernel
theorem dX9_inject_55 : decode cX9_inject 55 = .ok (.iload_n 2, 1) := by decide +kernel
theorem dX9_inject_56 : decode cX9_inject 56 = .ok (.iload_n 3, 1) := by decide +kernel
theorem dX9_inject_57 : decode cX9_inject 57 = .ok (.iload 4, 2) := by decide +kernel
theorem dX9_inject_59 : decode cX9_inject 59 = .ok (.iload 5, 2) := by decide +kernel
theorem dX9_inject_61 : decode cX9_inject 61 = .ok (.invokevirtual 327, 3) := by decide +kernel
theorem dX9_inject_64 : decode cX9_inject 64 = .ok (.aload_n 0, 1) := by decide +kernel
theorem dX9_inject_65 : decode cX9_inject 65 = .ok (.getfield 19, 3) := by decide +kernel
theorem dX9_inject_68 : decode cX9_inject 68 = .ok (.dup, 1) := by decide +kernel
theorem dX9_inject_69 : decode cX9_inject 69 = .ok (.getfield 302, 3) := by decide +kernel
theorem dX9_inject_72 : decode cX9_inject 72 = .ok (.iconst 1, 1) := by decide +kernel
theorem dX9_inject_73 : decode cX9_inject 73 = .ok (.iadd, 1) := by decide +kernel
theorem dX9_inject_74 : decode cX9_inject 74 = .ok (.putfield 302, 3) := by decide +kernel
theorem dX9_inject_77 : decode cX9_inject 77 = .ok (.aload_n 0, 1) := by decide +kernel
theorem dX9_inject_78 : decode cX9_inject 78 = .ok (.invokevirtual 87, 3) := by decide +kernel
theorem dX9_inject_81 : decode cX9_inject 81 = .ok (.aload_n 0, 1) := by decide +kernel
theorem dX9_inject_82 : decode cX9_inject 82 = .ok (.getfield 48, 3) := by decide +kernel
theorem dX9_inject_85 : decode cX9_inject 85 = .ok (.getfield 266, 3) := by decide +kernel
theorem dX9_inject_88 : decode cX9_inject 88 = .ok (.getfield 275, 3) := by decide +kernel
theorem dX9_inject_91 : decode cX9_inject 91 = .ok (.ireturn, 1) := by decide +kernel
theorem dX9_undo_0 : decode cX9_undo 0 = .ok (.aload_n 0, 1) := by decide +kernel
theorem dX9_undo_1 : decode cX9_undo 1 = .ok (.getfield 19, 3) := by decide +kernel
theorem dX9_undo_4 : decode cX9_undo 4 = .ok (.getfield 90, 3) := by decide +kernel
theorem dX9_undo_7 : decode cX9_undo 7 = .ok (.ifCond .ne 6, 3) := by decide +kernel
theorem dX9_undo_10 : decode cX9_undo 10 = .ok (.bipush (-2), 2) := by decide +kernel
theorem dX9_undo_12 : decode cX9_undo 12 = .ok (.ireturn, 1) := by decide +kernel
theorem dX9_undo_13 : decode cX9_undo 13 = .ok (.aload_n 0, 1) := by decide +kernel
theorem dX9_undo_14 : decode cX9_undo 14 = .ok (.getfield 19, 3) := by decide +kernel
theorem dX9_undo_17 : decode cX9_undo 17 = .ok (.getfield 302, 3) := by decide +kernel
theorem dX9_undo_20 : decode cX9_undo 20 = .ok (.ifCond .ne 6, 3) := by decide +kernel
theorem dX9_undo_23 : decode cX9_undo 23 = .ok (.bipush (-5), 2) := by decide +kernel
theorem dX9_undo_25 : decode cX9_undo 25 = .ok (.ireturn, 1) := by decide +kernel
theorem dX9_undo_26 : decode cX9_undo 26 = .ok (.aload_n 0, 1) := by decide +kernel
theorem dX9_undo_27 : decode cX9_undo 27 = .ok (.getfield 19, 3) := by decide +kernel
theorem dX9_undo_30 : decode cX9_undo 30 = .ok (.dup, 1) := by decide +kernel
theorem dX9_undo_31 : decode cX9_undo 31 = .ok (.getfield 302, 3) := by decide +kernel
theorem dX9_undo_34 : decode cX9_undo 34 = .ok (.iconst 1, 1) := by decide +kernel
theorem dX9_undo_35 : decode cX9_undo 35 = .ok (.isub, 1) := by decide +kernel
theorem dX9_undo_36 : decode cX9_undo 36 = .ok (.putfield 302, 3) := by decide +kernel
theorem dX9_undo_39 : decode cX9_undo 39 = .ok (.aload_n 0, 1) := by decide +kernel
theorem dX9_undo_40 : decode cX9_undo 40 = .ok (.invokevirtual 87, 3) := by decide +kernel
theorem dX9_undo_43 : decode cX9_undo 43 = .ok (.aload_n 0, 1) := by decide +kernel
theorem dX9_undo_44 : decode cX9_undo 44 = .ok (.getfield 19, 3) := by decide +kernel
theorem dX9_undo_47 : decode cX9_undo 47 = .ok (.getfield 302, 3) := by decide +kernel
theorem dX9_undo_50 : decode cX9_undo 50 = .ok (.ireturn, 1) := by decide +kernel
theorem dX9_anew_0 : decode cX9_anew 0 = .ok (.aload_n 0, 1) := by decide +kernel
theorem dX9_anew_1 : decode cX9_anew 1 = .ok (.getfield 19, 3) := by decide +kernel
theorem dX9_anew_4 : decode cX9_anew 4 = .ok (.getfield 90, 3) := by decide +kernel
theorem dX9_anew_7 : decode cX9_anew 7 = .ok (.ifCond .ne 6, 3) := by decide +kernel
theorem dX9_anew_10 : decode cX9_anew 10 = .ok (.bipush (-2), 2) := by decide +kernel
theorem dX9_anew_12 : decode cX9_anew 12 = .ok (.ireturn, 1) := by decide +kernel
theorem dX9_anew_13 : decode cX9_anew 13 = .ok (.aload_n 0, 1) := by decide +kernel
theorem dX9_anew_14 : decode cX9_anew 14 = .ok (.getfield 19, 3) := by decide +kernel
theorem dX9_anew_17 : decode cX9_anew 17 = .ok (.getfield 302, 3) := by decide +kernel
theorem dX9_anew_20 : decode cX9_anew 20 = .ok (.istore_n 1, 1) := by decide +kernel
theorem dX9_anew_21 : decode cX9_anew 21 = .ok (.aload_n 0, 1) := by decide +kernel
theorem dX9_anew_22 : decode cX9_anew 22 = .ok (.getfield 19, 3) := by decide +kernel
theorem dX9_anew_25 : decode cX9_anew 25 = .ok (.iconst 0, 1) := by decide +kernel
theorem dX9_anew_26 : decode cX9_anew 26 = .ok (.putfield 302, 3) := by decide +kernel
theorem dX9_anew_29 : decode cX9_anew 29 = .ok (.aload_n 0, 1) := by decide +kernel
theorem dX9_anew_30 : decode cX9_anew 30 = .ok (.invokevirtual 87, 3) := by decide +kernel
theorem dX9_anew_33 : decode cX9_anew 33 = .ok (.iload_n 1, 1) := by decide +kernel
theorem dX9_anew_34 : decode cX9_anew 34 = .ok (.ireturn, 1) := by decide +kernel
theorem dX9_count_0 : decode cX9_count 0 = .ok (.iload_n 1, 1) := by decide +kernel
theorem dX9_count_1 : decode cX9_count 1 = .ok (.tableswitch 126 0 8 #[51, 59, 67, 75, 83, 91, 99, 107, 115], 51) := by decide +kernel
theorem dX9_count_52 : decode cX9_count 52 = .ok (.aload_n 0, 1) := by decide +kernel
theorem dX9_count_53 : decode cX9_count 53 = .ok (.getfield 19, 3) := by decide +kernel
theorem dX9_count_56 : decode cX9_count 56 = .ok (.getfield 196, 3) := by decide +kernel
theorem dX9_count_59 : decode cX9_count 59 = .ok (.ireturn, 1) := by decide +kernel
theorem dX9_count_60 : decode cX9_count 60 = .ok (.aload_n 0, 1) := by decide +kernel
theorem dX9_count_61 : decode cX9_count 61 = .ok (.getfield 19, 3) := by decide +kernel
theorem dX9_count_64 : decode cX9_count 64 = .ok (.getfield 331, 3) := by decide +kernel
theorem dX9_count_67 : decode cX9_count 67 = .ok (.ireturn, 1) := by decide +kernel
theorem dX9_count_68 : decode cX9_count 68 = .ok (.aload_n 0, 1) := by decide +kernel
theorem dX9_count_69 : decode cX9_count 69 = .ok (.getfield 19, 3) := by decide +kernel
theorem dX9_count_72 : decode cX9_count 72 = .ok (.getfield 334, 3) := by decide +kernel
theorem dX9_count_75 : decode cX9_count 75 = .ok (.ireturn, 1) := by decide +kernel
theorem dX9_count_76 : decode cX9_count 76 = .ok (.aload_n 0, 1) := by decide +kernel
theorem dX9_count_77 : decode cX9_count 77 = .ok (.getfield 19, 3) := by decide +kernel
theorem dX9_count_80 : decode cX9_count 80 = .ok (.getfield 337, 3) := by decide +kernel
theorem dX9_count_83 : decode cX9_count 83 = .ok (.ireturn, 1) := by decide +kernel
theorem dX9_count_84 : decode cX9_count 84 = .ok (.aload_n 0, 1) := by decide +kernel
theorem dX9_count_85 : decode cX9_count 85 = .ok (.getfield 19, 3) := by decide +kernel
theorem dX9_count_88 : decode cX9_count 88 = .ok (.getfield 138, 3) := by decide +kernel
theorem dX9_count_91 : decode cX9_count 91 = .ok (.ireturn, 1) := by decide +kernel
theorem dX9_count_92 : decode cX9_count 92 = .ok (.aload_n 0, 1) := by decide +kernel
theorem dX9_count_93 : decode cX9_count 93 = .ok (.getfield 19, 3) := by decide +kernel
theorem dX9_count_96 : decode cX9_count 96 = .ok (.getfield 299, 3) := by decide +kernel
theorem dX9_count_99 : decode cX9_count 99 = .ok (.ireturn, 1) := by decide +kernel
theorem dX9_count_100 : decode cX9_count 100 = .ok (.aload_n 0, 1) := by decide +kernel
theorem dX9_count_101 : decode cX9_count 101 = .ok (.getfield 19, 3) := by decide +kernel
theorem dX9_count_104 : decode cX9_count 104 = .ok (.getfield 302, 3) := by decide +kernel
theorem dX9_count_107 : decode cX9_count 107 = .ok (.ireturn, 1) := by decide +kernel
theorem dX9_count_108 : decode cX9_count 108 = .ok (.aload_n 0, 1) := by decide +kernel
theorem dX9_count_109 : decode cX9_count 109 = .ok (.getfield 19, 3) := by decide +kernel
theorem dX9_count_112 : decode cX9_count 112 = .ok (.getfield 90, 3) := by decide +kernel
theorem dX9_count_115 : decode cX9_count 115 = .ok (.ireturn, 1) := by decide +kernel
theorem dX9_count_116 : decode cX9_count 116 = .ok (.aload_n 0, 1) := by decide +kernel
theorem dX9_count_117 : decode cX9_count 117 = .ok (.getfield 10, 3) := by decide +kernel
theorem dX9_count_120 : decode cX9_count 120 = .ok (.getfield 62, 3) := by decide +kernel
theorem dX9_count_123 : decode cX9_count 123 = .ok (.getfield 340, 3) := by decide +kernel
theorem dX9_count_126 : decode cX9_count 126 = .ok (.ireturn, 1) := by decide +kernel
theorem dX9_count_127 : decode cX9_count 127 = .ok (.iconst (-1), 1) := by decide +kernel
theorem dX9_count_128 : decode cX9_count 128 = .ok (.ireturn, 1) := by decide +kernel
theorem dX9_image_0 : decode cX9_image 0 = .ok (.iload_n 1, 1) := by decide +kernel
theorem dX9_image_1 : decode cX9_image 1 = .ok (.ifCond .lt 8, 3) := by decide +kernel
theorem dX9_image_4 : decode cX9_image 4 = .ok (.iload_n 1, 1) := by decide +kernel
theorem dX9_image_5 : decode cX9_image 5 = .ok (.iconst 3, 1) := by decide +kernel
theorem dX9_image_6 : decode cX9_image 6 = .ok (.if_icmp .lt 6, 3) := by decide +kernel
theorem dX9_image_9 : decode cX9_image 9 = .ok (.bipush (-2), 2) := by decide +kernel
theorem dX9_image_11 : decode cX9_image 11 = .ok (.ireturn, 1) := by decide +kernel
theorem dX9_image_12 : decode cX9_image 12 = .ok (.aload_n 0, 1) := by decide +kernel
theorem dX9_image_13 : decode cX9_image 13 = .ok (.getfield 23, 3) := by decide +kernel
theorem dX9_image_16 : decode cX9_image 16 = .ok (.iload_n 1, 1) := by decide +kernel
theorem dX9_image_17 : decode cX9_image 17 = .ok (.aaload, 1) := by decide +kernel
theorem dX9_image_18 : decode cX9_image 18 = .ok (.aload_n 0, 1) := by decide +kernel
theorem dX9_image_19 : decode cX9_image 19 = .ok (.getfield 19, 3) := by decide +kernel
theorem dX9_image_22 : decode cX9_image 22 = .ok (.invokevirtual 83, 3) := by decide +kernel
theorem dX9_image_25 : decode cX9_image 25 = .ok (.aload_n 0, 1) := by decide +kernel
theorem dX9_image_26 : decode cX9_image 26 = .ok (.getfield 27, 3) := by decide +kernel
theorem dX9_image_29 : decode cX9_image 29 = .ok (.iload_n 1, 1) := by decide +kernel
theorem dX9_image_30 : decode cX9_image 30 = .ok (.iconst 1, 1) := by decide +kernel
theorem dX9_image_31 : decode cX9_image 31 = .ok (.bastore, 1) := by decide +kernel
theorem dX9_image_32 : decode cX9_image 32 = .ok (.iconst 0, 1) := by decide +kernel
theorem dX9_image_33 : decode cX9_image 33 = .ok (.ireturn, 1) := by decide +kernel
theorem dX9_back_0 : decode cX9_back 0 = .ok (.iload_n 1, 1) := by decide +kernel
theorem dX9_back_1 : decode cX9_back 1 = .ok (.ifCond .lt 8, 3) := by decide +kernel
theorem dX9_back_4 : decode cX9_back 4 = .ok (.iload_n 1, 1) := by decide +kernel
theorem dX9_back_5 : decode cX9_back 5 = .ok (.iconst 3, 1) := by decide +kernel
theorem dX9_back_6 : decode cX9_back 6 = .ok (.if_icmp .lt 6, 3) := by decide +kernel
theorem dX9_back_9 : decode cX9_back 9 = .ok (.bipush (-2), 2) := by decide +kernel
theorem dX9_back_11 : decode cX9_back 11 = .ok (.ireturn, 1) := by decide +kernel
theorem dX9_back_12 : decode cX9_back 12 = .ok (.aload_n 0, 1) := by decide +kernel
theorem dX9_back_13 : decode cX9_back 13 = .ok (.getfield 27, 3) := by decide +kernel
theorem dX9_back_16 : decode cX9_back 16 = .ok (.iload_n 1, 1) := by decide +kernel
theorem dX9_back_17 : decode cX9_back 17 = .ok (.baload, 1) := by decide +kernel
theorem dX9_back_18 : decode cX9_back 18 = .ok (.ifCond .ne 6, 3) := by decide +kernel
theorem dX9_back_21 : decode cX9_back 21 = .ok (.bipush (-6), 2) := by decide +kernel
theorem dX9_back_23 : decode cX9_back 23 = .ok (.ireturn, 1) := by decide +kernel
theorem dX9_back_24 : decode cX9_back 24 = .ok (.aload_n 0, 1) := by decide +kernel
theorem dX9_back_25 : decode cX9_back 25 = .ok (.getfield 19, 3) := by decide +kernel
theorem dX9_back_28 : decode cX9_back 28 = .ok (.aload_n 0, 1) := by decide +kernel
theorem dX9_back_29 : decode cX9_back 29 = .ok (.getfield 23, 3) := by decide +kernel
theorem dX9_back_32 : decode cX9_back 32 = .ok (.iload_n 1, 1) := by decide +kernel
theorem dX9_back_33 : decode cX9_back 33 = .ok (.aaload, 1) := by decide +kernel
theorem dX9_back_34 : decode cX9_back 34 = .ok (.invokevirtual 83, 3) := by decide +kernel
theorem dX9_back_37 : decode cX9_back 37 = .ok (.aload_n 0, 1) := by decide +kernel
theorem dX9_back_38 : decode cX9_back 38 = .ok (.invokevirtual 87, 3) := by decide +kernel
theorem dX9_back_41 : decode cX9_back 41 = .ok (.iconst 0, 1) := by decide +kernel
theorem dX9_back_42 : decode cX9_back 42 = .ok (.ireturn, 1) := by decide +kernel
theorem dX9_refresh_0 : decode cX9_refresh 0 = .ok (.aload_n 0, 1) := by decide +kernel
theorem dX9_refresh_1 : decode cX9_refresh 1 = .ok (.getfield 48, 3) := by decide +kernel
theorem dX9_refresh_4 : decode cX9_refresh 4 = .ok (.getfield 341, 3) := by decide +kernel
theorem dX9_refresh_7 : decode cX9_refresh 7 = .ok (.aload_n 0, 1) := by decide +kernel
theorem dX9_refresh_8 : decode cX9_refresh 8 = .ok (.getfield 19, 3) := by decide +kernel
theorem dX9_refresh_11 : decode cX9_refresh 11 = .ok (.invokevirtual 83, 3) := by decide +kernel
theorem dX9_refresh_14 : decode cX9_refresh 14 = .ok (.aload_n 0, 1) := by decide +kernel
theorem dX9_refresh_15 : decode cX9_refresh 15 = .ok (.getfield 48, 3) := by decide +kernel
theorem dX9_refresh_18 : decode cX9_refresh 18 = .ok (.invokevirtual 342, 3) := by decide +kernel
theorem dX9_refresh_21 : decode cX9_refresh 21 = .ok (.aload_n 0, 1) := by decide +kernel
theorem dX9_refresh_22 : decode cX9_refresh 22 = .ok (.getfield 48, 3) := by decide +kernel
theorem dX9_refresh_25 : decode cX9_refresh 25 = .ok (.aload_n 0, 1) := by decide +kernel
theorem dX9_refresh_26 : decode cX9_refresh 26 = .ok (.getfield 19, 3) := by decide +kernel
theorem dX9_refresh_29 : decode cX9_refresh 29 = .ok (.getfield 196, 3) := by decide +kernel
theorem dX9_refresh_32 : decode cX9_refresh 32 = .ok (.invokevirtual 199, 3) := by decide +kernel
theorem dX9_refresh_35 : decode cX9_refresh 35 = .ok (.aload_n 0, 1) := by decide +kernel
theorem dX9_refresh_36 : decode cX9_refresh 36 = .ok (.getfield 52, 3) := by decide +kernel
theorem dX9_refresh_39 : decode cX9_refresh 39 = .ok (.getfield 341, 3) := by decide +kernel
theorem dX9_refresh_42 : decode cX9_refresh 42 = .ok (.aload_n 0, 1) := by decide +kernel
theorem dX9_refresh_43 : decode cX9_refresh 43 = .ok (.getfield 19, 3) := by decide +kernel
theorem dX9_refresh_46 : decode cX9_refresh 46 = .ok (.invokevirtual 83, 3) := by decide +kernel
theorem dX9_refresh_49 : decode cX9_refresh 49 = .ok (.aload_n 0, 1) := by decide +kernel
theorem dX9_refresh_50 : decode cX9_refresh 50 = .ok (.getfield 52, 3) := by decide +kernel
theorem dX9_refresh_53 : decode cX9_refresh 53 = .ok (.invokevirtual 342, 3) := by decide +kernel
theorem dX9_refresh_56 : decode cX9_refresh 56 = .ok (.aload_n 0, 1) := by decide +kernel
theorem dX9_refresh_57 : decode cX9_refresh 57 = .ok (.getfield 58, 3) := by decide +kernel
theorem dX9_refresh_60 : decode cX9_refresh 60 = .ok (.invokevirtual 345, 3) := by decide +kernel
theorem dX9_refresh_63 : decode cX9_refresh 63 = .ok (.return_, 1) := by decide +kernel
theorem dX9_isTick_0 : decode cX9_isTick 0 = .ok (.aload_n 0, 1) := by decide +kernel
theorem dX9_isTick_1 : decode cX9_isTick 1 = .ok (.getfield 19, 3) := by decide +kernel
theorem dX9_isTick_4 : decode cX9_isTick 4 = .ok (.getfield 90, 3) := by decide +kernel
theorem dX9_isTick_7 : decode cX9_isTick 7 = .ok (.ifCond .le 22, 3) := by decide +kernel
theorem dX9_isTick_10 : decode cX9_isTick 10 = .ok (.iload_n 1, 1) := by decide +kernel
theorem dX9_isTick_11 : decode cX9_isTick 11 = .ok (.ifCond .lt 18, 3) := by decide +kernel
theorem dX9_isTick_14 : decode cX9_isTick 14 = .ok (.iload_n 1, 1) := by decide +kernel
theorem dX9_isTick_15 : decode cX9_isTick 15 = .ok (.aload_n 0, 1) := by decide +kernel
theorem dX9_isTick_16 : decode cX9_isTick 16 = .ok (.getfield 19, 3) := by decide +kernel
theorem dX9_isTick_19 : decode cX9_isTick 19 = .ok (.getfield 196, 3) := by decide +kernel
theorem dX9_isTick_22 : decode cX9_isTick 22 = .ok (.if_icmp .gt 7, 3) := by decide +kernel
theorem dX9_isTick_25 : decode cX9_isTick 25 = .ok (.iconst 1, 1) := by decide +kernel
theorem dX9_isTick_26 : decode cX9_isTick 26 = .ok (.goto 4, 3) := by decide +kernel
theorem dX9_isTick_29 : decode cX9_isTick 29 = .ok (.iconst 0, 1) := by decide +kernel
theorem dX9_isTick_30 : decode cX9_isTick 30 = .ok (.ireturn, 1) := by decide +kernel
theorem dX9_isTaskAndTick_0 : decode cX9_isTaskAndTick 0 = .ok (.aload_n 0, 1) := by decide +kernel
theorem dX9_isTaskAndTick_1 : decode cX9_isTaskAndTick 1 = .ok (.getfield 19, 3) := by decide +kernel
theorem dX9_isTaskAndTick_4 : decode cX9_isTaskAndTick 4 = .ok (.iload_n 1, 1) := by decide +kernel
theorem dX9_isTaskAndTick_5 : decode cX9_isTaskAndTick 5 = .ok (.invokevirtual 100, 3) := by decide +kernel
theorem dX9_isTaskAndTick_8 : decode cX9_isTaskAndTick 8 = .ok (.ifCond .eq 15, 3) := by decide +kernel
theorem dX9_isTaskAndTick_11 : decode cX9_isTaskAndTick 11 = .ok (.aload_n 0, 1) := by decide +kernel
theorem dX9_isTaskAndTick_12 : decode cX9_isTaskAndTick 12 = .ok (.iload_n 2, 1) := by decide +kernel
theorem dX9_isTaskAndTick_13 : decode cX9_isTaskAndTick 13 = .ok (.invokevirtual 205, 3) := by decide +kernel
theorem dX9_isTaskAndTick_16 : decode cX9_isTaskAndTick 16 = .ok (.ifCond .eq 7, 3) := by decide +kernel
theorem dX9_isTaskAndTick_19 : decode cX9_isTaskAndTick 19 = .ok (.iconst 1, 1) := by decide +kernel
theorem dX9_isTaskAndTick_20 : decode cX9_isTaskAndTick 20 = .ok (.goto 4, 3) := by decide +kernel
theorem dX9_isTaskAndTick_23 : decode cX9_isTaskAndTick 23 = .ok (.iconst 0, 1) := by decide +kernel
theorem dX9_isTaskAndTick_24 : decode cX9_isTaskAndTick 24 = .ok (.ireturn, 1) := by decide +kernel
theorem dX9_stateOf_0 : decode cX9_stateOf 0 = .ok (.aload_n 0, 1) := by decide +kernel
theorem dX9_stateOf_1 : decode cX9_stateOf 1 = .ok (.getfield 52, 3) := by decide +kernel
theorem dX9_stateOf_4 : decode cX9_stateOf 4 = .ok (.iload_n 2, 1) := by decide +kernel
theorem dX9_stateOf_5 : decode cX9_stateOf 5 = .ok (.invokevirtual 199, 3) := by decide +kernel
theorem dX9_stateOf_8 : decode cX9_stateOf 8 = .ok (.aload_n 0, 1) := by decide +kernel
theorem dX9_stateOf_9 : decode cX9_stateOf 9 = .ok (.getfield 52, 3) := by decide +kernel
theorem dX9_stateOf_12 : decode cX9_stateOf 12 = .ok (.getfield 348, 3) := by decide +kernel
theorem dX9_stateOf_15 : decode cX9_stateOf 15 = .ok (.iload_n 1, 1) := by decide +kernel
theorem dX9_stateOf_16 : decode cX9_stateOf 16 = .ok (.aaload, 1) := by decide +kernel
theorem dX9_stateOf_17 : decode cX9_stateOf 17 = .ok (.areturn, 1) := by decide +kernel
theorem dX9_isJob_0 : decode cX9_isJob 0 = .ok (.iload_n 0, 1) := by decide +kernel
theorem dX9_isJob_1 : decode cX9_isJob 1 = .ok (.ifCond .lt 13, 3) := by decide +kernel
theorem dX9_isJob_4 : decode cX9_isJob 4 = .ok (.iload_n 0, 1) := by decide +kernel
theorem dX9_isJob_5 : decode cX9_isJob 5 = .ok (.bipush 50, 2) := by decide +kernel
theorem dX9_isJob_7 : decode cX9_isJob 7 = .ok (.if_icmp .gt 7, 3) := by decide +kernel
theorem dX9_isJob_10 : decode cX9_isJob 10 = .ok (.iconst 1, 1) := by decide +kernel
theorem dX9_isJob_11 : decode cX9_isJob 11 = .ok (.goto 4, 3) := by decide +kernel
theorem dX9_isJob_14 : decode cX9_isJob 14 = .ok (.iconst 0, 1) := by decide +kernel
theorem dX9_isJob_15 : decode cX9_isJob 15 = .ok (.ireturn, 1) := by decide +kernel
theorem dX9_isQuestion_0 : decode cX9_isQuestion 0 = .ok (.iload_n 0, 1) := by decide +kernel
theorem dX9_isQuestion_1 : decode cX9_isQuestion 1 = .ok (.ifCond .lt 13, 3) := by decide +kernel
theorem dX9_isQuestion_4 : decode cX9_isQuestion 4 = .ok (.iload_n 0, 1) := by decide +kernel
theorem dX9_isQuestion_5 : decode cX9_isQuestion 5 = .ok (.bipush 64, 2) := by decide +kernel
theorem dX9_isQuestion_7 : decode cX9_isQuestion 7 = .ok (.if_icmp .ge 7, 3) := by decide +kernel
theorem dX9_isQuestion_10 : decode cX9_isQuestion 10 = .ok (.iconst 1, 1) := by decide +kernel
theorem dX9_isQuestion_11 : decode cX9_isQuestion 11 = .ok (.goto 4, 3) := by decide +kernel
theorem dX9_isQuestion_14 : decode cX9_isQuestion 14 = .ok (.iconst 0, 1) := by decide +kernel
theorem dX9_isQuestion_15 : decode cX9_isQuestion 15 = .ok (.ireturn, 1) := by decide +kernel
theorem dX9_divides_0 : decode cX9_divides 0 = .ok (.iload_n 0, 1) := by decide +kernel
theorem dX9_divides_1 : decode cX9_divides 1 = .ok (.ifCond .le 13, 3) := by decide +kernel
theorem dX9_divides_4 : decode cX9_divides 4 = .ok (.iload_n 1, 1) := by decide +kernel
theorem dX9_divides_5 : decode cX9_divides 5 = .ok (.iload_n 0, 1) := by decide +kernel
theorem dX9_divides_6 : decode cX9_divides 6 = .ok (.irem, 1) := by decide +kernel
theorem dX9_divides_7 : decode cX9_divides 7 = .ok (.ifCond .ne 7, 3) := by decide +kernel
theorem dX9_divides_10 : decode cX9_divides 10 = .ok (.iconst 1, 1) := by decide +kernel
theorem dX9_divides_11 : decode cX9_divides 11 = .ok (.goto 4, 3) := by decide +kernel
theorem dX9_divides_14 : decode cX9_divides 14 = .ok (.iconst 0, 1) := by decide +kernel
theorem dX9_divides_15 : decode cX9_divides 15 = .ok (.ireturn, 1) := by decide +kernel
theorem dX9_divideCut_0 : decode cX9_divideCut 0 = .ok (.iload_n 1, 1) := by decide +kernel
theorem dX9_divideCut_1 : decode cX9_divideCut 1 = .ok (.ifCond .le 9, 3) := by decide +kernel
theorem dX9_divideCut_4 : decode cX9_divideCut 4 = .ok (.iload_n 0, 1) := by decide +kernel
theorem dX9_divideCut_5 : decode cX9_divideCut 5 = .ok (.iload_n 1, 1) := by decide +kernel
theorem dX9_divideCut_6 : decode cX9_divideCut 6 = .ok (.idiv, 1) := by decide +kernel
theorem dX9_divideCut_7 : decode cX9_divideCut 7 = .ok (.goto 4, 3) := by decide +kernel
theorem dX9_divideCut_10 : decode cX9_divideCut 10 = .ok (.iconst 0, 1) := by decide +kernel
theorem dX9_divideCut_11 : decode cX9_divideCut 11 = .ok (.ireturn, 1) := by decide +kernel
theorem dX9_divideUp_0 : decode cX9_divideUp 0 = .ok (.iload_n 1, 1) := by decide +kernel
theorem dX9_divideUp_1 : decode cX9_divideUp 1 = .ok (.ifCond .le 13, 3) := by decide +kernel
theorem dX9_divideUp_4 : decode cX9_divideUp 4 = .ok (.iload_n 0, 1) := by decide +kernel
theorem dX9_divideUp_5 : decode cX9_divideUp 5 = .ok (.iload_n 1, 1) := by decide +kernel
theorem dX9_divideUp_6 : decode cX9_divideUp 6 = .ok (.iadd, 1) := by decide +kernel
theorem dX9_divideUp_7 : decode cX9_divideUp 7 = .ok (.iconst 1, 1) := by decide +kernel
theorem dX9_divideUp_8 : decode cX9_divideUp 8 = .ok (.isub, 1) := by decide +kernel
theorem dX9_divideUp_9 : decode cX9_divideUp 9 = .ok (.iload_n 1, 1) := by decide +kernel
theorem dX9_divideUp_10 : decode cX9_divideUp 10 = .ok (.idiv, 1) := by decide +kernel
theorem dX9_divideUp_11 : decode cX9_divideUp 11 = .ok (.goto 4, 3) := by decide +kernel
theorem dX9_divideUp_14 : decode cX9_divideUp 14 = .ok (.iconst 0, 1) := by decide +kernel
theorem dX9_divideUp_15 : decode cX9_divideUp 15 = .ok (.ireturn, 1) := by decide +kernel
theorem dX9_bitsOfFloat_0 : decode cX9_bitsOfFloat 0 = .ok (.fload_n 0, 1) := by decide +kernel
theorem dX9_bitsOfFloat_1 : decode cX9_bitsOfFloat 1 = .ok (.fconst 0, 1) := by decide +kernel
theorem dX9_bitsOfFloat_2 : decode cX9_bitsOfFloat 2 = .ok (.fcmp .l, 1) := by decide +kernel
theorem dX9_bitsOfFloat_3 : decode cX9_bitsOfFloat 3 = .ok (.ifCond .gt 5, 3) := by decide +kernel
theorem dX9_bitsOfFloat_6 : decode cX9_bitsOfFloat 6 = .ok (.iconst 0, 1) := by decide +kernel
theorem dX9_bitsOfFloat_7 : decode cX9_bitsOfFloat 7 = .ok (.ireturn, 1) := by decide +kernel
theorem dX9_bitsOfFloat_8 : decode cX9_bitsOfFloat 8 = .ok (.fload_n 0, 1) := by decide +kernel
theorem dX9_bitsOfFloat_9 : decode cX9_bitsOfFloat 9 = .ok (.fstore_n 1, 1) := by decide +kernel
theorem dX9_bitsOfFloat_10 : decode cX9_bitsOfFloat 10 = .ok (.bipush 127, 2) := by decide +kernel
theorem dX9_bitsOfFloat_12 : decode cX9_bitsOfFloat 12 = .ok (.istore_n 2, 1) := by decide +kernel
theorem dX9_bitsOfFloat_13 : decode cX9_bitsOfFloat 13 = .ok (.iconst 0, 1) := by decide +kernel
theorem dX9_bitsOfFloat_14 : decode cX9_bitsOfFloat 14 = .ok (.istore_n 3, 1) := by decide +kernel
theorem dX9_bitsOfFloat_15 : decode cX9_bitsOfFloat 15 = .ok (.iload_n 3, 1) := by decide +kernel
theorem dX9_bitsOfFloat_16 : decode cX9_bitsOfFloat 16 = .ok (.sipush 128, 3) := by decide +kernel
theorem dX9_bitsOfFloat_19 : decode cX9_bitsOfFloat 19 = .ok (.if_icmp .ge 22, 3) := by decide +kernel
theorem dX9_bitsOfFloat_22 : decode cX9_bitsOfFloat 22 = .ok (.fload_n 1, 1) := by decide +kernel
theorem dX9_bitsOfFloat_23 : decode cX9_bitsOfFloat 23 = .ok (.fconst 2, 1) := by decide +kernel
theorem dX9_bitsOfFloat_24 : decode cX9_bitsOfFloat 24 = .ok (.fcmp .l, 1) := by decide +kernel
theorem dX9_bitsOfFloat_25 : decode cX9_bitsOfFloat 25 = .ok (.ifCond .lt 16, 3) := by decide +kernel
theorem dX9_bitsOfFloat_28 : decode cX9_bitsOfFloat 28 = .ok (.fload_n 1, 1) := by decide +kernel
theorem dX9_bitsOfFloat_29 : decode cX9_bitsOfFloat 29 = .ok (.fconst 2, 1) := by decide +kernel
theorem dX9_bitsOfFloat_30 : decode cX9_bitsOfFloat 30 = .ok (.fdiv, 1) := by decide +kernel
theorem dX9_bitsOfFloat_31 : decode cX9_bitsOfFloat 31 = .ok (.fstore_n 1, 1) := by decide +kernel
theorem dX9_bitsOfFloat_32 : decode cX9_bitsOfFloat 32 = .ok (.iinc 2 1, 3) := by decide +kernel
theorem dX9_bitsOfFloat_35 : decode cX9_bitsOfFloat 35 = .ok (.iinc 3 1, 3) := by decide +kernel
theorem dX9_bitsOfFloat_38 : decode cX9_bitsOfFloat 38 = .ok (.goto (-23), 3) := by decide +kernel
theorem dX9_bitsOfFloat_41 : decode cX9_bitsOfFloat 41 = .ok (.iconst 0, 1) := by decide +kernel
theorem dX9_bitsOfFloat_42 : decode cX9_bitsOfFloat 42 = .ok (.istore_n 3, 1) := by decide +kernel
theorem dX9_bitsOfFloat_43 : decode cX9_bitsOfFloat 43 = .ok (.iload_n 3, 1) := by decide +kernel
theorem dX9_bitsOfFloat_44 : decode cX9_bitsOfFloat 44 = .ok (.bipush 126, 2) := by decide +kernel
theorem dX9_bitsOfFloat_46 : decode cX9_bitsOfFloat 46 = .ok (.if_icmp .ge 22, 3) := by decide +kernel
theorem dX9_bitsOfFloat_49 : decode cX9_bitsOfFloat 49 = .ok (.fload_n 1, 1) := by decide +kernel
theorem dX9_bitsOfFloat_50 : decode cX9_bitsOfFloat 50 = .ok (.fconst 1, 1) := by decide +kernel
theorem dX9_bitsOfFloat_51 : decode cX9_bitsOfFloat 51 = .ok (.fcmp .g, 1) := by decide +kernel
theorem dX9_bitsOfFloat_52 : decode cX9_bitsOfFloat 52 = .ok (.ifCond .ge 16, 3) := by decide +kernel
theorem dX9_bitsOfFloat_55 : decode cX9_bitsOfFloat 55 = .ok (.fload_n 1, 1) := by decide +kernel
theorem dX9_bitsOfFloat_56 : decode cX9_bitsOfFloat 56 = .ok (.fconst 2, 1) := by decide +kernel
theorem dX9_bitsOfFloat_57 : decode cX9_bitsOfFloat 57 = .ok (.fmul, 1) := by decide +kernel
theorem dX9_bitsOfFloat_58 : decode cX9_bitsOfFloat 58 = .ok (.fstore_n 1, 1) := by decide +kernel
theorem dX9_bitsOfFloat_59 : decode cX9_bitsOfFloat 59 = .ok (.iinc 2 (-1), 3) := by decide +kernel
theorem dX9_bitsOfFloat_62 : decode cX9_bitsOfFloat 62 = .ok (.iinc 3 1, 3) := by decide +kernel
theorem dX9_bitsOfFloat_65 : decode cX9_bitsOfFloat 65 = .ok (.goto (-22), 3) := by decide +kernel
theorem dX9_bitsOfFloat_68 : decode cX9_bitsOfFloat 68 = .ok (.fload_n 1, 1) := by decide +kernel
theorem dX9_bitsOfFloat_69 : decode cX9_bitsOfFloat 69 = .ok (.fconst 1, 1) := by decide +kernel
theorem dX9_bitsOfFloat_70 : decode cX9_bitsOfFloat 70 = .ok (.fcmp .g, 1) := by decide +kernel
theorem dX9_bitsOfFloat_71 : decode cX9_bitsOfFloat 71 = .ok (.ifCond .ge 10, 3) := by decide +kernel
theorem dX9_bitsOfFloat_74 : decode cX9_bitsOfFloat 74 = .ok (.fload_n 1, 1) := by decide +kernel
theorem dX9_bitsOfFloat_75 : decode cX9_bitsOfFloat 75 = .ok (.ldc_w 352, 3) := by decide +kernel
theorem dX9_bitsOfFloat_78 : decode cX9_bitsOfFloat 78 = .ok (.fmul, 1) := by decide +kernel
theorem dX9_bitsOfFloat_79 : decode cX9_bitsOfFloat 79 = .ok (.f2i, 1) := by decide +kernel
theorem dX9_bitsOfFloat_80 : decode cX9_bitsOfFloat 80 = .ok (.ireturn, 1) := by decide +kernel
theorem dX9_bitsOfFloat_81 : decode cX9_bitsOfFloat 81 = .ok (.iload_n 2, 1) := by decide +kernel
theorem dX9_bitsOfFloat_82 : decode cX9_bitsOfFloat 82 = .ok (.bipush 23, 2) := by decide +kernel
theorem dX9_bitsOfFloat_84 : decode cX9_bitsOfFloat 84 = .ok (.ishl, 1) := by decide +kernel
theorem dX9_bitsOfFloat_85 : decode cX9_bitsOfFloat 85 = .ok (.fload_n 1, 1) := by decide +kernel
theorem dX9_bitsOfFloat_86 : decode cX9_bitsOfFloat 86 = .ok (.fconst 1, 1) := by decide +kernel
theorem dX9_bitsOfFloat_87 : decode cX9_bitsOfFloat 87 = .ok (.fsub, 1) := by decide +kernel
theorem dX9_bitsOfFloat_88 : decode cX9_bitsOfFloat 88 = .ok (.ldc_w 352, 3) := by decide +kernel
theorem dX9_bitsOfFloat_91 : decode cX9_bitsOfFloat 91 = .ok (.fmul, 1) := by decide +kernel
theorem dX9_bitsOfFloat_92 : decode cX9_bitsOfFloat 92 = .ok (.f2i, 1) := by decide +kernel
theorem dX9_bitsOfFloat_93 : decode cX9_bitsOfFloat 93 = .ok (.iadd, 1) := by decide +kernel
theorem dX9_bitsOfFloat_94 : decode cX9_bitsOfFloat 94 = .ok (.ireturn, 1) := by decide +kernel
theorem dX9_bitsOfDouble_0 : decode cX9_bitsOfDouble 0 = .ok (.dload_n 0, 1) := by decide +kernel
theorem dX9_bitsOfDouble_1 : decode cX9_bitsOfDouble 1 = .ok (.dconst 0, 1) := by decide +kernel
theorem dX9_bitsOfDouble_2 : decode cX9_bitsOfDouble 2 = .ok (.dcmp .l, 1) := by decide +kernel
theorem dX9_bitsOfDouble_3 : decode cX9_bitsOfDouble 3 = .ok (.ifCond .gt 5, 3) := by decide +kernel
theorem dX9_bitsOfDouble_6 : decode cX9_bitsOfDouble 6 = .ok (.lconst 0, 1) := by decide +kernel
theorem dX9_bitsOfDouble_7 : decode cX9_bitsOfDouble 7 = .ok (.lreturn, 1) := by decide +kernel
theorem dX9_bitsOfDouble_8 : decode cX9_bitsOfDouble 8 = .ok (.dload_n 0, 1) := by decide +kernel
theorem dX9_bitsOfDouble_9 : decode cX9_bitsOfDouble 9 = .ok (.dstore_n 2, 1) := by decide +kernel
theorem dX9_bitsOfDouble_10 : decode cX9_bitsOfDouble 10 = .ok (.ldc2_w 353, 3) := by decide +kernel
theorem dX9_bitsOfDouble_13 : decode cX9_bitsOfDouble 13 = .ok (.lstore 4, 2) := by decide +kernel
theorem dX9_bitsOfDouble_15 : decode cX9_bitsOfDouble 15 = .ok (.iconst 0, 1) := by decide +kernel
theorem dX9_bitsOfDouble_16 : decode cX9_bitsOfDouble 16 = .ok (.istore 6, 2) := by decide +kernel
theorem dX9_bitsOfDouble_18 : decode cX9_bitsOfDouble 18 = .ok (.iload 6, 2) := by decide +kernel
theorem dX9_bitsOfDouble_20 : decode cX9_bitsOfDouble 20 = .ok (.sipush 1024, 3) := by decide +kernel
theorem dX9_bitsOfDouble_23 : decode cX9_bitsOfDouble 23 = .ok (.if_icmp .ge 29, 3) := by decide +kernel
theorem dX9_bitsOfDouble_26 : decode cX9_bitsOfDouble 26 = .ok (.dload_n 2, 1) := by decide +kernel
theorem dX9_bitsOfDouble_27 : decode cX9_bitsOfDouble 27 = .ok (.ldc2_w 355, 3) := by decide +kernel
theorem dX9_bitsOfDouble_30 : decode cX9_bitsOfDouble 30 = .ok (.dcmp .l, 1) := by decide +kernel
theorem dX9_bitsOfDouble_31 : decode cX9_bitsOfDouble 31 = .ok (.ifCond .lt 21, 3) := by decide +kernel
theorem dX9_bitsOfDouble_34 : decode cX9_bitsOfDouble 34 = .ok (.dload_n 2, 1) := by decide +kernel
theorem dX9_bitsOfDouble_35 : decode cX9_bitsOfDouble 35 = .ok (.ldc2_w 355, 3) := by decide +kernel
theorem dX9_bitsOfDouble_38 : decode cX9_bitsOfDouble 38 = .ok (.ddiv, 1) := by decide +kernel
theorem dX9_bitsOfDouble_39 : decode cX9_bitsOfDouble 39 = .ok (.dstore_n 2, 1) := by decide +kernel
theorem dX9_bitsOfDouble_40 : decode cX9_bitsOfDouble 40 = .ok (.lload 4, 2) := by decide +kernel
theorem dX9_bitsOfDouble_42 : decode cX9_bitsOfDouble 42 = .ok (.lconst 1, 1) := by decide +kernel
theorem dX9_bitsOfDouble_43 : decode cX9_bitsOfDouble 43 = .ok (.ladd, 1) := by decide +kernel
theorem dX9_bitsOfDouble_44 : decode cX9_bitsOfDouble 44 = .ok (.lstore 4, 2) := by decide +kernel
theorem dX9_bitsOfDouble_46 : decode cX9_bitsOfDouble 46 = .ok (.iinc 6 1, 3) := by decide +kernel
theorem dX9_bitsOfDouble_49 : decode cX9_bitsOfDouble 49 = .ok (.goto (-31), 3) := by decide +kernel
theorem dX9_bitsOfDouble_52 : decode cX9_bitsOfDouble 52 = .ok (.iconst 0, 1) := by decide +kernel
theorem dX9_bitsOfDouble_53 : decode cX9_bitsOfDouble 53 = .ok (.istore 6, 2) := by decide +kernel
theorem dX9_bitsOfDouble_55 : decode cX9_bitsOfDouble 55 = .ok (.iload 6, 2) := by decide +kernel
theorem dX9_bitsOfDouble_57 : decode cX9_bitsOfDouble 57 = .ok (.sipush 1022, 3) := by decide +kernel
theorem dX9_bitsOfDouble_60 : decode cX9_bitsOfDouble 60 = .ok (.if_icmp .ge 27, 3) := by decide +kernel
theorem dX9_bitsOfDouble_63 : decode cX9_bitsOfDouble 63 = .ok (.dload_n 2, 1) := by decide +kernel
theorem dX9_bitsOfDouble_64 : decode cX9_bitsOfDouble 64 = .ok (.dconst 1, 1) := by decide +kernel
theorem dX9_bitsOfDouble_65 : decode cX9_bitsOfDouble 65 = .ok (.dcmp .g, 1) := by decide +kernel
theorem dX9_bitsOfDouble_66 : decode cX9_bitsOfDouble 66 = .ok (.ifCond .ge 21, 3) := by decide +kernel
theorem dX9_bitsOfDouble_69 : decode cX9_bitsOfDouble 69 = .ok (.dload_n 2, 1) := by decide +kernel
theorem dX9_bitsOfDouble_70 : decode cX9_bitsOfDouble 70 = .ok (.ldc2_w 355, 3) := by decide +kernel
theorem dX9_bitsOfDouble_73 : decode cX9_bitsOfDouble 73 = .ok (.dmul, 1) := by decide +kernel
theorem dX9_bitsOfDouble_74 : decode cX9_bitsOfDouble 74 = .ok (.dstore_n 2, 1) := by decide +kernel
theorem dX9_bitsOfDouble_75 : decode cX9_bitsOfDouble 75 = .ok (.lload 4, 2) := by decide +kernel
theorem dX9_bitsOfDouble_77 : decode cX9_bitsOfDouble 77 = .ok (.lconst 1, 1) := by decide +kernel
theorem dX9_bitsOfDouble_78 : decode cX9_bitsOfDouble 78 = .ok (.lsub, 1) := by decide +kernel
theorem dX9_bitsOfDouble_79 : decode cX9_bitsOfDouble 79 = .ok (.lstore 4, 2) := by decide +kernel
theorem dX9_bitsOfDouble_81 : decode cX9_bitsOfDouble 81 = .ok (.iinc 6 1, 3) := by decide +kernel
theorem dX9_bitsOfDouble_84 : decode cX9_bitsOfDouble 84 = .ok (.goto (-29), 3) := by decide +kernel
theorem dX9_bitsOfDouble_87 : decode cX9_bitsOfDouble 87 = .ok (.dload_n 2, 1) := by decide +kernel
theorem dX9_bitsOfDouble_88 : decode cX9_bitsOfDouble 88 = .ok (.dconst 1, 1) := by decide +kernel
theorem dX9_bitsOfDouble_89 : decode cX9_bitsOfDouble 89 = .ok (.dcmp .g, 1) := by decide +kernel
theorem dX9_bitsOfDouble_90 : decode cX9_bitsOfDouble 90 = .ok (.ifCond .ge 10, 3) := by decide +kernel
theorem dX9_bitsOfDouble_93 : decode cX9_bitsOfDouble 93 = .ok (.dload_n 2, 1) := by decide +kernel
theorem dX9_bitsOfDouble_94 : decode cX9_bitsOfDouble 94 = .ok (.ldc2_w 357, 3) := by decide +kernel
theorem dX9_bitsOfDouble_97 : decode cX9_bitsOfDouble 97 = .ok (.dmul, 1) := by decide +kernel
theorem dX9_bitsOfDouble_98 : decode cX9_bitsOfDouble 98 = .ok (.d2l, 1) := by decide +kernel
theorem dX9_bitsOfDouble_99 : decode cX9_bitsOfDouble 99 = .ok (.lreturn, 1) := by decide +kernel
theorem dX9_bitsOfDouble_100 : decode cX9_bitsOfDouble 100 = .ok (.lload 4, 2) := by decide +kernel
theorem dX9_bitsOfDouble_102 : decode cX9_bitsOfDouble 102 = .ok (.bipush 52, 2) := by decide +kernel
theorem dX9_bitsOfDouble_104 : decode cX9_bitsOfDouble 104 = .ok (.lshl, 1) := by decide +kernel
theorem dX9_bitsOfDouble_105 : decode cX9_bitsOfDouble 105 = .ok (.dload_n 2, 1) := by decide +kernel
theorem dX9_bitsOfDouble_106 : decode cX9_bitsOfDouble 106 = .ok (.dconst 1, 1) := by decide +kernel
theorem dX9_bitsOfDouble_107 : decode cX9_bitsOfDouble 107 = .ok (.dsub, 1) := by decide +kernel
theorem dX9_bitsOfDouble_108 : decode cX9_bitsOfDouble 108 = .ok (.ldc2_w 357, 3) := by decide +kernel
theorem dX9_bitsOfDouble_111 : decode cX9_bitsOfDouble 111 = .ok (.dmul, 1) := by decide +kernel
theorem dX9_bitsOfDouble_112 : decode cX9_bitsOfDouble 112 = .ok (.d2l, 1) := by decide +kernel
theorem dX9_bitsOfDouble_113 : decode cX9_bitsOfDouble 113 = .ok (.ladd, 1) := by decide +kernel
theorem dX9_bitsOfDouble_114 : decode cX9_bitsOfDouble 114 = .ok (.lreturn, 1) := by decide +kernel
theorem dX10_init_0 : decode cX10_init 0 = .ok (.aload_n 0, 1) := by decide +kernel
theorem dX10_init_1 : decode cX10_init 1 = .ok (.invokespecial 3, 3) := by decide +kernel
theorem dX10_init_4 : decode cX10_init 4 = .ok (.aload_n 0, 1) := by decide +kernel
theorem dX10_init_5 : decode cX10_init 5 = .ok (.sipush 201, 3) := by decide +kernel
theorem dX10_init_8 : decode cX10_init 8 = .ok (.newarray .int, 2) := by decide +kernel
theorem dX10_init_10 : decode cX10_init 10 = .ok (.putfield 9, 3) := by decide +kernel
theorem dX10_init_13 : decode cX10_init 13 = .ok (.aload_n 0, 1) := by decide +kernel
theorem dX10_init_14 : decode cX10_init 14 = .ok (.sipush 603, 3) := by decide +kernel
theorem dX10_init_17 : decode cX10_init 17 = .ok (.newarray .int, 2) := by decide +kernel
theorem dX10_init_19 : decode cX10_init 19 = .ok (.putfield 13, 3) := by decide +kernel
theorem dX10_init_22 : decode cX10_init 22 = .ok (.aload_n 0, 1) := by decide +kernel
theorem dX10_init_23 : decode cX10_init 23 = .ok (.iconst 3, 1) := by decide +kernel
theorem dX10_init_24 : decode cX10_init 24 = .ok (.newarray .boolean, 2) := by decide +kernel
theorem dX10_init_26 : decode cX10_init 26 = .ok (.putfield 16, 3) := by decide +kernel
theorem dX10_init_29 : decode cX10_init 29 = .ok (.aload_n 0, 1) := by decide +kernel
theorem dX10_init_30 : decode cX10_init 30 = .ok (.sipush 1000, 3) := by decide +kernel
theorem dX10_init_33 : decode cX10_init 33 = .ok (.newarray .byte, 2) := by decide +kernel
theorem dX10_init_35 : decode cX10_init 35 = .ok (.putfield 20, 3) := by decide +kernel
theorem dX10_init_38 : decode cX10_init 38 = .ok (.aload_n 0, 1) := by decide +kernel
theorem dX10_init_39 : decode cX10_init 39 = .ok (.iconst 5, 1) := by decide +kernel
theorem dX10_init_40 : decode cX10_init 40 = .ok (.newarray .int, 2) := by decide +kernel
theorem dX10_init_42 : decode cX10_init 42 = .ok (.putfield 24, 3) := by decide +kernel
theorem dX10_init_45 : decode cX10_init 45 = .ok (.aload_n 0, 1) := by decide +kernel
theorem dX10_init_46 : decode cX10_init 46 = .ok (.iconst (-1), 1) := by decide +kernel
theorem dX10_init_47 : decode cX10_init 47 = .ok (.putfield 27, 3) := by decide +kernel
theorem dX10_init_50 : decode cX10_init 50 = .ok (.aload_n 0, 1) := by decide +kernel
theorem dX10_init_51 : decode cX10_init 51 = .ok (.sipush 201, 3) := by decide +kernel
theorem dX10_init_54 : decode cX10_init 54 = .ok (.newarray .int, 2) := by decide +kernel
theorem dX10_init_56 : decode cX10_init 56 = .ok (.putfield 31, 3) := by decide +kernel
theorem dX10_init_59 : decode cX10_init 59 = .ok (.aload_n 0, 1) := by decide +kernel
theorem dX10_init_60 : decode cX10_init 60 = .ok (.bipush 6, 2) := by decide +kernel
theorem dX10_init_62 : decode cX10_init 62 = .ok (.newarray .int, 2) := by decide +kernel
theorem dX10_init_64 : decode cX10_init 64 = .ok (.putfield 34, 3) := by decide +kernel
theorem dX10_init_67 : decode cX10_init 67 = .ok (.aload_n 0, 1) := by decide +kernel
theorem dX10_init_68 : decode cX10_init 68 = .ok (.iconst 5, 1) := by decide +kernel
theorem dX10_init_69 : decode cX10_init 69 = .ok (.newarray .int, 2) := by decide +kernel
theorem dX10_init_71 : decode cX10_init 71 = .ok (.putfield 37, 3) := by decide +kernel
theorem dX10_init_74 : decode cX10_init 74 = .ok (.aload_n 0, 1) := by decide +kernel
theorem dX10_init_75 : decode cX10_init 75 = .ok (.iconst 5, 1) := by decide +kernel
theorem dX10_init_76 : decode cX10_init 76 = .ok (.newarray .int, 2) := by decide +kernel
theorem dX10_init_78 : decode cX10_init 78 = .ok (.putfield 40, 3) := by decide +kernel
theorem dX10_init_81 : decode cX10_init 81 = .ok (.aload_n 0, 1) := by decide +kernel
theorem dX10_init_82 : decode cX10_init 82 = .ok (.iconst 5, 1) := by decide +kernel
theorem dX10_init_83 : decode cX10_init 83 = .ok (.newarray .int, 2) := by decide +kernel
theorem dX10_init_85 : decode cX10_init 85 = .ok (.putfield 43, 3) := by decide +kernel
theorem dX10_init_88 : decode cX10_init 88 = .ok (.aload_n 0, 1) := by decide +kernel
theorem dX10_init_89 : decode cX10_init 89 = .ok (.iconst 5, 1) := by decide +kernel
theorem dX10_init_90 : decode cX10_init 90 = .ok (.newarray .int, 2) := by decide +kernel
theorem dX10_init_92 : decode cX10_init 92 = .ok (.putfield 46, 3) := by decide +kernel
theorem dX10_init_95 : decode cX10_init 95 = .ok (.aload_n 0, 1) := by decide +kernel
theorem dX10_init_96 : decode cX10_init 96 = .ok (.iconst 5, 1) := by decide +kernel
theorem dX10_init_97 : decode cX10_init 97 = .ok (.newarray .int, 2) := by decide +kernel
theorem dX10_init_99 : decode cX10_init 99 = .ok (.putfield 49, 3) := by decide +kernel
theorem dX10_init_102 : decode cX10_init 102 = .ok (.aload_n 0, 1) := by decide +kernel
theorem dX10_init_103 : decode cX10_init 103 = .ok (.bipush 64, 2) := by decide +kernel
theorem dX10_init_105 : decode cX10_init 105 = .ok (.newarray .int, 2) := by decide +kernel
theorem dX10_init_107 : decode cX10_init 107 = .ok (.putfield 52, 3) := by decide +kernel
theorem dX10_init_110 : decode cX10_init 110 = .ok (.aload_n 0, 1) := by decide +kernel
theorem dX10_init_111 : decode cX10_init 111 = .ok (.iconst (-1), 1) := by decide +kernel
theorem dX10_init_112 : decode cX10_init 112 = .ok (.putfield 55, 3) := by decide +kernel
theorem dX10_init_115 : decode cX10_init 115 = .ok (.aload_n 0, 1) := by decide +kernel
theorem dX10_init_116 : decode cX10_init 116 = .ok (.iconst (-1), 1) := by decide +kernel
theorem dX10_init_117 : decode cX10_init 117 = .ok (.putfield 58, 3) := by decide +kernel
theorem dX10_init_120 : decode cX10_init 120 = .ok (.aload_n 0, 1) := by decide +kernel
theorem dX10_init_121 : decode cX10_init 121 = .ok (.iconst 5, 1) := by decide +kernel
theorem dX10_init_122 : decode cX10_init 122 = .ok (.newarray .int, 2) := by decide +kernel
theorem dX10_init_124 : decode cX10_init 124 = .ok (.putfield 61, 3) := by decide +kernel
theorem dX10_init_127 : decode cX10_init 127 = .ok (.aload_n 0, 1) := by decide +kernel
theorem dX10_init_128 : decode cX10_init 128 = .ok (.iconst 5, 1) := by decide +kernel
theorem dX10_init_129 : decode cX10_init 129 = .ok (.newarray .int, 2) := by decide +kernel
theorem dX10_init_131 : decode cX10_init 131 = .ok (.putfield 64, 3) := by decide +kernel
theorem dX10_init_134 : decode cX10_init 134 = .ok (.aload_n 0, 1) := by decide +kernel
theorem dX10_init_135 : decode cX10_init 135 = .ok (.iconst 5, 1) := by decide +kernel
theorem dX10_init_136 : decode cX10_init 136 = .ok (.newarray .int, 2) := by decide +kernel
theorem dX10_init_138 : decode cX10_init 138 = .ok (.putfield 67, 3) := by decide +kernel
theorem dX10_init_141 : decode cX10_init 141 = .ok (.aload_n 0, 1) := by decide +kernel
theorem dX10_init_142 : decode cX10_init 142 = .ok (.iconst 5, 1) := by decide +kernel
theorem dX10_init_143 : decode cX10_init 143 = .ok (.newarray .int, 2) := by decide +kernel
theorem dX10_init_145 : decode cX10_init 145 = .ok (.putfield 70, 3) := by decide +kernel
theorem dX10_init_148 : decode cX10_init 148 = .ok (.aload_n 0, 1) := by decide +kernel
theorem dX10_init_149 : decode cX10_init 149 = .ok (.iconst 5, 1) := by decide +kernel
theorem dX10_init_150 : decode cX10_init 150 = .ok (.newarray .int, 2) := by decide +kernel
theorem dX10_init_152 : decode cX10_init 152 = .ok (.putfield 73, 3) := by decide +kernel
theorem dX10_init_155 : decode cX10_init 155 = .ok (.aload_n 0, 1) := by decide +kernel
theorem dX10_init_156 : decode cX10_init 156 = .ok (.iconst 5, 1) := by decide +kernel
theorem dX10_init_157 : decode cX10_init 157 = .ok (.newarray .int, 2) := by decide +kernel
theorem dX10_init_159 : decode cX10_init 159 = .ok (.putfield 76, 3) := by decide +kernel
theorem dX10_init_162 : decode cX10_init 162 = .ok (.aload_n 0, 1) := by decide +kernel
theorem dX10_init_163 : decode cX10_init 163 = .ok (.iconst 5, 1) := by decide +kernel
theorem dX10_init_164 : decode cX10_init 164 = .ok (.newarray .int, 2) := by decide +kernel
theorem dX10_init_166 : decode cX10_init 166 = .ok (.putfield 79, 3) := by decide +kernel
theorem dX10_init_169 : decode cX10_init 169 = .ok (.aload_n 0, 1) := by decide +kernel
theorem dX10_init_170 : decode cX10_init 170 = .ok (.iconst 5, 1) := by decide +kernel
theorem dX10_init_171 : decode cX10_init 171 = .ok (.newarray .boolean, 2) := by decide +kernel
theorem dX10_init_173 : decode cX10_init 173 = .ok (.putfield 82, 3) := by decide +kernel
theorem dX10_init_176 : decode cX10_init 176 = .ok (.aload_n 0, 1) := by decide +kernel
theorem dX10_init_177 : decode cX10_init 177 = .ok (.iconst 5, 1) := by decide +kernel
theorem dX10_init_178 : decode cX10_init 178 = .ok (.newarray .int, 2) := by decide +kernel
theorem dX10_init_180 : decode cX10_init 180 = .ok (.putfield 85, 3) := by decide +kernel
theorem dX10_init_183 : decode cX10_init 183 = .ok (.aload_n 0, 1) := by decide +kernel
theorem dX10_init_184 : decode cX10_init 184 = .ok (.iconst 5, 1) := by decide +kernel
theorem dX10_init_185 : decode cX10_init 185 = .ok (.newarray .int, 2) := by decide +kernel
theorem dX10_init_187 : decode cX10_init 187 = .ok (.putfield 88, 3) := by decide +kernel
theorem dX10_init_190 : decode cX10_init 190 = .ok (.aload_n 0, 1) := by decide +kernel
theorem dX10_init_191 : decode cX10_init 191 = .ok (.iconst 5, 1) := by decide +kernel
theorem dX10_init_192 : decode cX10_init 192 = .ok (.newarray .float, 2) := by decide +kernel
theorem dX10_init_194 : decode cX10_init 194 = .ok (.putfield 91, 3) := by decide +kernel
theorem dX10_init_197 : decode cX10_init 197 = .ok (.aload_n 0, 1) := by decide +kernel
theorem dX10_init_198 : decode cX10_init 198 = .ok (.iconst 5, 1) := by decide +kernel
theorem dX10_init_199 : decode cX10_init 199 = .ok (.newarray .int, 2) := by decide +kernel
theorem dX10_init_201 : decode cX10_init 201 = .ok (.putfield 95, 3) := by decide +kernel
theorem dX10_init_204 : decode cX10_init 204 = .ok (.aload_n 0, 1) := by decide +kernel
theorem dX10_init_205 : decode cX10_init 205 = .ok (.iconst 5, 1) := by decide +kernel
theorem dX10_init_206 : decode cX10_init 206 = .ok (.newarray .boolean, 2) := by decide +kernel
theorem dX10_init_208 : decode cX10_init 208 = .ok (.putfield 98, 3) := by decide +kernel
theorem dX10_init_211 : decode cX10_init 211 = .ok (.aload_n 0, 1) := by decide +kernel
theorem dX10_init_212 : decode cX10_init 212 = .ok (.iconst 5, 1) := by decide +kernel
theorem dX10_init_213 : decode cX10_init 213 = .ok (.newarray .int, 2) := by decide +kernel
theorem dX10_init_215 : decode cX10_init 215 = .ok (.putfield 101, 3) := by decide +kernel
theorem dX10_init_218 : decode cX10_init 218 = .ok (.aload_n 0, 1) := by decide +kernel
theorem dX10_init_219 : decode cX10_init 219 = .ok (.iconst 5, 1) := by decide +kernel
theorem dX10_init_220 : decode cX10_init 220 = .ok (.newarray .int, 2) := by decide +kernel
theorem dX10_init_222 : decode cX10_init 222 = .ok (.putfield 104, 3) := by decide +kernel
theorem dX10_init_225 : decode cX10_init 225 = .ok (.aload_n 0, 1) := by decide +kernel
theorem dX10_init_226 : decode cX10_init 226 = .ok (.iconst 5, 1) := by decide +kernel
theorem dX10_init_227 : decode cX10_init 227 = .ok (.newarray .float, 2) := by decide +kernel
theorem dX10_init_229 : decode cX10_init 229 = .ok (.putfield 107, 3) := by decide +kernel
theorem dX10_init_232 : decode cX10_init 232 = .ok (.aload_n 0, 1) := by decide +kernel
theorem dX10_init_233 : decode cX10_init 233 = .ok (.iconst 5, 1) := by decide +kernel
theorem dX10_init_234 : decode cX10_init 234 = .ok (.newarray .double, 2) := by decide +kernel
theorem dX10_init_236 : decode cX10_init 236 = .ok (.putfield 110, 3) := by decide +kernel
theorem dX10_init_239 : decode cX10_init 239 = .ok (.aload_n 0, 1) := by decide +kernel
theorem dX10_init_240 : decode cX10_init 240 = .ok (.iconst 5, 1) := by decide +kernel
theorem dX10_init_241 : decode cX10_init 241 = .ok (.newarray .int, 2) := by decide +kernel
theorem dX10_init_243 : decode cX10_init 243 = .ok (.putfield 114, 3) := by decide +kernel
theorem dX10_init_246 : decode cX10_init 246 = .ok (.aload_n 0, 1) := by decide +kernel
theorem dX10_init_247 : decode cX10_init 247 = .ok (.sipush 1000, 3) := by decide +kernel
theorem dX10_init_250 : decode cX10_init 250 = .ok (.newarray .int, 2) := by decide +kernel
theorem dX10_init_252 : decode cX10_init 252 = .ok (.putfield 117, 3) := by decide +kernel
theorem dX10_init_255 : decode cX10_init 255 = .ok (.aload_n 0, 1) := by decide +kernel
theorem dX10_init_256 : decode cX10_init 256 = .ok (.sipush 255, 3) := by decide +kernel
theorem dX10_init_259 : decode cX10_init 259 = .ok (.newarray .int, 2) := by decide +kernel
theorem dX10_init_261 : decode cX10_init 261 = .ok (.putfield 120, 3) := by decide +kernel
theorem dX10_init_264 : decode cX10_init 264 = .ok (.aload_n 0, 1) := by decide +kernel
theorem dX10_init_265 : decode cX10_init 265 = .ok (.bipush 19, 2) := by decide +kernel
theorem dX10_init_267 : decode cX10_init 267 = .ok (.newarray .boolean, 2) := by decide +kernel
theorem dX10_init_269 : decode cX10_init 269 = .ok (.putfield 123, 3) := by decide +kernel
theorem dX10_init_272 : decode cX10_init 272 = .ok (.aload_n 0, 1) := by decide +kernel
theorem dX10_init_273 : decode cX10_init 273 = .ok (.iconst 3, 1) := by decide +kernel
theorem dX10_init_274 : decode cX10_init 274 = .ok (.newarray .boolean, 2) := by decide +kernel
theorem dX10_init_276 : decode cX10_init 276 = .ok (.putfield 126, 3) := by decide +kernel
theorem dX10_init_279 : decode cX10_init 279 = .ok (.aload_n 0, 1) := by decide +kernel
theorem dX10_init_280 : decode cX10_init 280 = .ok (.iconst 3, 1) := by decide +kernel
theorem dX10_init_281 : decode cX10_init 281 = .ok (.newarray .boolean, 2) := by decide +kernel
theorem dX10_init_283 : decode cX10_init 283 = .ok (.putfield 129, 3) := by decide +kernel
theorem dX10_init_286 : decode cX10_init 286 = .ok (.aload_n 0, 1) := by decide +kernel
theorem dX10_init_287 : decode cX10_init 287 = .ok (.sipush 200, 3) := by decide +kernel
theorem dX10_init_290 : decode cX10_init 290 = .ok (.newarray .int, 2) := by decide +kernel
theorem dX10_init_292 : decode cX10_init 292 = .ok (.putfield 132, 3) := by decide +kernel
theorem dX10_init_295 : decode cX10_init 295 = .ok (.aload_n 0, 1) := by decide +kernel
theorem dX10_init_296 : decode cX10_init 296 = .ok (.sipush 4000, 3) := by decide +kernel
theorem dX10_init_299 : decode cX10_init 299 = .ok (.newarray .int, 2) := by decide +kernel
theorem dX10_init_301 : decode cX10_init 301 = .ok (.putfield 135, 3) := by decide +kernel
theorem dX10_init_304 : decode cX10_init 304 = .ok (.aload_n 0, 1) := by decide +kernel
theorem dX10_init_305 : decode cX10_init 305 = .ok (.sipush 4000, 3) := by decide +kernel
theorem dX10_init_308 : decode cX10_init 308 = .ok (.newarray .int, 2) := by decide +kernel
theorem dX10_init_310 : decode cX10_init 310 = .ok (.putfield 138, 3) := by decide +kernel
theorem dX10_init_313 : decode cX10_init 313 = .ok (.aload_n 0, 1) := by decide +kernel
theorem dX10_init_314 : decode cX10_init 314 = .ok (.sipush 4000, 3) := by decide +kernel
theorem dX10_init_317 : decode cX10_init 317 = .ok (.newarray .int, 2) := by decide +kernel
theorem dX10_init_319 : decode cX10_init 319 = .ok (.putfield 141, 3) := by decide +kernel
theorem dX10_init_322 : decode cX10_init 322 = .ok (.aload_n 0, 1) := by decide +kernel
theorem dX10_init_323 : decode cX10_init 323 = .ok (.sipush 4000, 3) := by decide +kernel
theorem dX10_init_326 : decode cX10_init 326 = .ok (.newarray .int, 2) := by decide +kernel
theorem dX10_init_328 : decode cX10_init 328 = .ok (.putfield 144, 3) := by decide +kernel
theorem dX10_init_331 : decode cX10_init 331 = .ok (.return_, 1) := by decide +kernel
theorem dX10_in_0 : decode cX10_in 0 = .ok (.lload_n 0, 1) := by decide +kernel
theorem dX10_in_1 : decode cX10_in 1 = .ok (.lload_n 2, 1) := by decide +kernel
theorem dX10_in_2 : decode cX10_in 2 = .ok (.lcmp, 1) := by decide +kernel
theorem dX10_in_3 : decode cX10_in 3 = .ok (.ifCond .lt 14, 3) := by decide +kernel
theorem dX10_in_6 : decode cX10_in 6 = .ok (.lload_n 0, 1) := by decide +kernel
theorem dX10_in_7 : decode cX10_in 7 = .ok (.lload 4, 2) := by decide +kernel
theorem dX10_in_9 : decode cX10_in 9 = .ok (.lcmp, 1) := by decide +kernel
theorem dX10_in_10 : decode cX10_in 10 = .ok (.ifCond .gt 7, 3) := by decide +kernel
theorem dX10_in_13 : decode cX10_in 13 = .ok (.iconst 1, 1) := by decide +kernel
theorem dX10_in_14 : decode cX10_in 14 = .ok (.goto 4, 3) := by decide +kernel
theorem dX10_in_17 : decode cX10_in 17 = .ok (.iconst 0, 1) := by decide +kernel
theorem dX10_in_18 : decode cX10_in 18 = .ok (.ireturn, 1) := by decide +kernel
theorem dX10_image_0 : decode cX10_image 0 = .ok (.iload_n 1, 1) := by decide +kernel
theorem dX10_image_1 : decode cX10_image 1 = .ok (.i2l, 1) := by decide +kernel
theorem dX10_image_2 : decode cX10_image 2 = .ok (.lconst 0, 1) := by decide +kernel
theorem dX10_image_3 : decode cX10_image 3 = .ok (.ldc2_w 150, 3) := by decide +kernel
theorem dX10_image_6 : decode cX10_image 6 = .ok (.invokestatic 152, 3) := by decide +kernel
theorem dX10_image_9 : decode cX10_image 9 = .ok (.ifCond .ne 6, 3) := by decide +kernel
theorem dX10_image_12 : decode cX10_image 12 = .ok (.bipush (-2), 2) := by decide +kernel
theorem dX10_image_14 : decode cX10_image 14 = .ok (.ireturn, 1) := by decide +kernel
theorem dX10_image_15 : decode cX10_image 15 = .ok (.iconst 0, 1) := by decide +kernel
theorem dX10_image_16 : decode cX10_image 16 = .ok (.istore_n 2, 1) := by decide +kernel
theorem dX10_image_17 : decode cX10_image 17 = .ok (.iload_n 2, 1) := by decide +kernel
theorem dX10_image_18 : decode cX10_image 18 = .ok (.sipush 201, 3) := by decide +kernel
theorem dX10_image_21 : decode cX10_image 21 = .ok (.if_icmp .ge 27, 3) := by decide +kernel
theorem dX10_image_24 : decode cX10_image 24 = .ok (.aload_n 0, 1) := by decide +kernel
theorem dX10_image_25 : decode cX10_image 25 = .ok (.getfield 13, 3) := by decide +kernel
theorem dX10_image_28 : decode cX10_image 28 = .ok (.sipush 201, 3) := by decide +kernel
theorem dX10_image_31 : decode cX10_image 31 = .ok (.iload_n 1, 1) := by decide +kernel
theorem dX10_image_32 : decode cX10_image 32 = .ok (.imul, 1) := by decide +kernel
theorem dX10_image_33 : decode cX10_image 33 = .ok (.iload_n 2, 1) := by decide +kernel
theorem dX10_image_34 : decode cX10_image 34 = .ok (.iadd, 1) := by decide +kernel
theorem dX10_image_35 : decode cX10_image 35 = .ok (.aload_n 0, 1) := by decide +kernel
theorem dX10_image_36 : decode cX10_image 36 = .ok (.getfield 9, 3) := by decide +kernel
theorem dX10_image_39 : decode cX10_image 39 = .ok (.iload_n 2, 1) := by decide +kernel
theorem dX10_image_40 : decode cX10_image 40 = .ok (.iaload, 1) := by decide +kernel
theorem dX10_image_41 : decode cX10_image 41 = .ok (.iastore, 1) := by decide +kernel
theorem dX10_image_42 : decode cX10_image 42 = .ok (.iinc 2 1, 3) := by decide +kernel
theorem dX10_image_45 : decode cX10_image 45 = .ok (.goto (-28), 3) := by decide +kernel
theorem dX10_image_48 : decode cX10_image 48 = .ok (.aload_n 0, 1) := by decide +kernel
theorem dX10_image_49 : decode cX10_image 49 = .ok (.getfield 16, 3) := by decide +kernel
theorem dX10_image_52 : decode cX10_image 52 = .ok (.iload_n 1, 1) := by decide +kernel
theorem dX10_image_53 : decode cX10_image 53 = .ok (.iconst 1, 1) := by decide +kernel
theorem dX10_image_54 : decode cX10_image 54 = .ok (.bastore, 1) := by decide +kernel
theorem dX10_image_55 : decode cX10_image 55 = .ok (.iconst 0, 1) := by decide +kernel
theorem dX10_image_56 : decode cX10_image 56 = .ok (.ireturn, 1) := by decide +kernel
theorem dX10_back_0 : decode cX10_back 0 = .ok (.iload_n 1, 1) := by decide +kernel
theorem dX10_back_1 : decode cX10_back 1 = .ok (.i2l, 1) := by decide +kernel
theorem dX10_back_2 : decode cX10_back 2 = .ok (.lconst 0, 1) := by decide +kernel
theorem dX10_back_3 : decode cX10_back 3 = .ok (.ldc2_w 150, 3) := by decide +kernel
theorem dX10_back_6 : decode cX10_back 6 = .ok (.invokestatic 152, 3) := by decide +kernel
theorem dX10_back_9 : decode cX10_back 9 = .ok (.ifCond .ne 6, 3) := by decide +kernel
theorem dX10_back_12 : decode cX10_back 12 = .ok (.bipush (-2), 2) := by decide +kernel
theorem dX10_back_14 : decode cX10_back 14 = .ok (.ireturn, 1) := by decide +kernel
theorem dX10_back_15 : decode cX10_back 15 = .ok (.aload_n 0, 1) := by decide +kernel
theorem dX10_back_16 : decode cX10_back 16 = .ok (.getfield 16, 3) := by decide +kernel
theorem dX10_back_19 : decode cX10_back 19 = .ok (.iload_n 1, 1) := by decide +kernel
theorem dX10_back_20 : decode cX10_back 20 = .ok (.baload, 1) := by decide +kernel
theorem dX10_back_21 : decode cX10_back 21 = .ok (.ifCond .ne 6, 3) := by decide +kernel
theorem dX10_back_24 : decode cX10_back 24 = .ok (.bipush (-6), 2) := by decide +kernel
theorem dX10_back_26 : decode cX10_back 26 = .ok (.ireturn, 1) := by decide +kernel
theorem dX10_back_27 : decode cX10_back 27 = .ok (.iconst 0, 1) := by decide +kernel
theorem dX10_back_28 : decode cX10_back 28 = .ok (.istore_n 2, 1) := by decide +kernel
theorem dX10_back_29 : decode cX10_back 29 = .ok (.iload_n 2, 1) := by decide +kernel
theorem dX10_back_30 : decode cX10_back 30 = .ok (.sipush 201, 3) := by decide +kernel
