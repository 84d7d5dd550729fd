theorem dX10_days_0 : decode cX10_days 0 = .ok (.iload_n 1, 1) := by decide +kernel
theorem dX10_days_1 : decode cX10_days 1 = .ok (.iconst 1, 1) := by decide +kernel
theorem dX10_days_2 : decode cX10_days 2 = .ok (.if_icmp .ge 10, 3) := by decide +kernel
theorem dX10_days_5 : decode cX10_days 5 = .ok (.aload_n 0, 1) := by decide +kernel
theorem dX10_days_6 : decode cX10_days 6 = .ok (.bipush (-4), 2) := by decide +kernel
theorem dX10_days_8 : decode cX10_days 8 = .ok (.invokevirtual 175, 3) := by decide +kernel
theorem dX10_days_11 : decode cX10_days 11 = .ok (.ireturn, 1) := by decide +kernel
theorem dX10_days_12 : decode cX10_days 12 = .ok (.iload_n 1, 1) := by decide +kernel
theorem dX10_days_13 : decode cX10_days 13 = .ok (.sipush 1500, 3) := by decide +kernel
theorem dX10_days_16 : decode cX10_days 16 = .ok (.aload_n 0, 1) := by decide +kernel
theorem dX10_days_17 : decode cX10_days 17 = .ok (.getfield 179, 3) := by decide +kernel
theorem dX10_days_20 : decode cX10_days 20 = .ok (.isub, 1) := by decide +kernel
theorem dX10_days_21 : decode cX10_days 21 = .ok (.if_icmp .le 10, 3) := by decide +kernel
theorem dX10_days_24 : decode cX10_days 24 = .ok (.aload_n 0, 1) := by decide +kernel
theorem dX10_days_25 : decode cX10_days 25 = .ok (.bipush (-6), 2) := by decide +kernel
theorem dX10_days_27 : decode cX10_days 27 = .ok (.invokevirtual 175, 3) := by decide +kernel
theorem dX10_days_30 : decode cX10_days 30 = .ok (.ireturn, 1) := by decide +kernel
theorem dX10_days_31 : decode cX10_days 31 = .ok (.aload_n 0, 1) := by decide +kernel
theorem dX10_days_32 : decode cX10_days 32 = .ok (.dup, 1) := by decide +kernel
theorem dX10_days_33 : decode cX10_days 33 = .ok (.getfield 179, 3) := by decide +kernel
theorem dX10_days_36 : decode cX10_days 36 = .ok (.iload_n 1, 1) := by decide +kernel
theorem dX10_days_37 : decode cX10_days 37 = .ok (.iadd, 1) := by decide +kernel
theorem dX10_days_38 : decode cX10_days 38 = .ok (.putfield 179, 3) := by decide +kernel
theorem dX10_days_41 : decode cX10_days 41 = .ok (.aload_n 0, 1) := by decide +kernel
theorem dX10_days_42 : decode cX10_days 42 = .ok (.getfield 179, 3) := by decide +kernel
theorem dX10_days_45 : decode cX10_days 45 = .ok (.ireturn, 1) := by decide +kernel
theorem dX10_code_0 : decode cX10_code 0 = .ok (.iload_n 1, 1) := by decide +kernel
theorem dX10_code_1 : decode cX10_code 1 = .ok (.iconst 0, 1) := by decide +kernel
theorem dX10_code_2 : decode cX10_code 2 = .ok (.iconst 4, 1) := by decide +kernel
theorem dX10_code_3 : decode cX10_code 3 = .ok (.invokestatic 168, 3) := by decide +kernel
theorem dX10_code_6 : decode cX10_code 6 = .ok (.ifCond .ne 9, 3) := by decide +kernel
theorem dX10_code_9 : decode cX10_code 9 = .ok (.aload_n 0, 1) := by decide +kernel
theorem dX10_code_10 : decode cX10_code 10 = .ok (.iconst (-1), 1) := by decide +kernel
theorem dX10_code_11 : decode cX10_code 11 = .ok (.invokevirtual 175, 3) := by decide +kernel
theorem dX10_code_14 : decode cX10_code 14 = .ok (.ireturn, 1) := by decide +kernel
theorem dX10_code_15 : decode cX10_code 15 = .ok (.iload_n 2, 1) := by decide +kernel
theorem dX10_code_16 : decode cX10_code 16 = .ok (.ifCond .lt 11, 3) := by decide +kernel
theorem dX10_code_19 : decode cX10_code 19 = .ok (.iload_n 3, 1) := by decide +kernel
theorem dX10_code_20 : decode cX10_code 20 = .ok (.aload_n 0, 1) := by decide +kernel
theorem dX10_code_21 : decode cX10_code 21 = .ok (.getfield 179, 3) := by decide +kernel
theorem dX10_code_24 : decode cX10_code 24 = .ok (.if_icmp .ge 10, 3) := by decide +kernel
theorem dX10_code_27 : decode cX10_code 27 = .ok (.aload_n 0, 1) := by decide +kernel
theorem dX10_code_28 : decode cX10_code 28 = .ok (.bipush (-4), 2) := by decide +kernel
theorem dX10_code_30 : decode cX10_code 30 = .ok (.invokevirtual 175, 3) := by decide +kernel
theorem dX10_code_33 : decode cX10_code 33 = .ok (.ireturn, 1) := by decide +kernel
theorem dX10_code_34 : decode cX10_code 34 = .ok (.iload_n 2, 1) := by decide +kernel
theorem dX10_code_35 : decode cX10_code 35 = .ok (.bipush 50, 2) := by decide +kernel
theorem dX10_code_37 : decode cX10_code 37 = .ok (.if_icmp .gt 19, 3) := by decide +kernel
theorem dX10_code_40 : decode cX10_code 40 = .ok (.iload_n 3, 1) := by decide +kernel
theorem dX10_code_41 : decode cX10_code 41 = .ok (.sipush 1500, 3) := by decide +kernel
theorem dX10_code_44 : decode cX10_code 44 = .ok (.if_icmp .gt 12, 3) := by decide +kernel
theorem dX10_code_47 : decode cX10_code 47 = .ok (.aload_n 0, 1) := by decide +kernel
theorem dX10_code_48 : decode cX10_code 48 = .ok (.getfield 182, 3) := by decide +kernel
theorem dX10_code_51 : decode cX10_code 51 = .ok (.bipush 40, 2) := by decide +kernel
theorem dX10_code_53 : decode cX10_code 53 = .ok (.if_icmp .ne 10, 3) := by decide +kernel
theorem dX10_code_56 : decode cX10_code 56 = .ok (.aload_n 0, 1) := by decide +kernel
theorem dX10_code_57 : decode cX10_code 57 = .ok (.bipush (-6), 2) := by decide +kernel
theorem dX10_code_59 : decode cX10_code 59 = .ok (.invokevirtual 175, 3) := by decide +kernel
theorem dX10_code_62 : decode cX10_code 62 = .ok (.ireturn, 1) := by decide +kernel
theorem dX10_code_63 : decode cX10_code 63 = .ok (.aload_n 0, 1) := by decide +kernel
theorem dX10_code_64 : decode cX10_code 64 = .ok (.getfield 7, 3) := by decide +kernel
theorem dX10_code_67 : decode cX10_code 67 = .ok (.aload_n 0, 1) := by decide +kernel
theorem dX10_code_68 : decode cX10_code 68 = .ok (.getfield 182, 3) := by decide +kernel
theorem dX10_code_71 : decode cX10_code 71 = .ok (.iload_n 1, 1) := by decide +kernel
theorem dX10_code_72 : decode cX10_code 72 = .ok (.iastore, 1) := by decide +kernel
theorem dX10_code_73 : decode cX10_code 73 = .ok (.aload_n 0, 1) := by decide +kernel
theorem dX10_code_74 : decode cX10_code 74 = .ok (.getfield 13, 3) := by decide +kernel
theorem dX10_code_77 : decode cX10_code 77 = .ok (.aload_n 0, 1) := by decide +kernel
theorem dX10_code_78 : decode cX10_code 78 = .ok (.getfield 182, 3) := by decide +kernel
theorem dX10_code_81 : decode cX10_code 81 = .ok (.iload_n 2, 1) := by decide +kernel
theorem dX10_code_82 : decode cX10_code 82 = .ok (.iastore, 1) := by decide +kernel
theorem dX10_code_83 : decode cX10_code 83 = .ok (.aload_n 0, 1) := by decide +kernel
theorem dX10_code_84 : decode cX10_code 84 = .ok (.getfield 16, 3) := by decide +kernel
theorem dX10_code_87 : decode cX10_code 87 = .ok (.aload_n 0, 1) := by decide +kernel
theorem dX10_code_88 : decode cX10_code 88 = .ok (.getfield 182, 3) := by decide +kernel
theorem dX10_code_91 : decode cX10_code 91 = .ok (.iload_n 3, 1) := by decide +kernel
theorem dX10_code_92 : decode cX10_code 92 = .ok (.iastore, 1) := by decide +kernel
theorem dX10_code_93 : decode cX10_code 93 = .ok (.aload_n 0, 1) := by decide +kernel
theorem dX10_code_94 : decode cX10_code 94 = .ok (.getfield 19, 3) := by decide +kernel
theorem dX10_code_97 : decode cX10_code 97 = .ok (.aload_n 0, 1) := by decide +kernel
theorem dX10_code_98 : decode cX10_code 98 = .ok (.getfield 182, 3) := by decide +kernel
theorem dX10_code_101 : decode cX10_code 101 = .ok (.iconst (-1), 1) := by decide +kernel
theorem dX10_code_102 : decode cX10_code 102 = .ok (.iastore, 1) := by decide +kernel
theorem dX10_code_103 : decode cX10_code 103 = .ok (.aload_n 0, 1) := by decide +kernel
theorem dX10_code_104 : decode cX10_code 104 = .ok (.dup, 1) := by decide +kernel
theorem dX10_code_105 : decode cX10_code 105 = .ok (.getfield 182, 3) := by decide +kernel
theorem dX10_code_108 : decode cX10_code 108 = .ok (.iconst 1, 1) := by decide +kernel
theorem dX10_code_109 : decode cX10_code 109 = .ok (.iadd, 1) := by decide +kernel
theorem dX10_code_110 : decode cX10_code 110 = .ok (.putfield 182, 3) := by decide +kernel
theorem dX10_code_113 : decode cX10_code 113 = .ok (.aload_n 0, 1) := by decide +kernel
theorem dX10_code_114 : decode cX10_code 114 = .ok (.getfield 182, 3) := by decide +kernel
theorem dX10_code_117 : decode cX10_code 117 = .ok (.iconst 1, 1) := by decide +kernel
theorem dX10_code_118 : decode cX10_code 118 = .ok (.isub, 1) := by decide +kernel
theorem dX10_code_119 : decode cX10_code 119 = .ok (.ireturn, 1) := by decide +kernel
theorem dX10_isCode_0 : decode cX10_isCode 0 = .ok (.iload_n 1, 1) := by decide +kernel
theorem dX10_isCode_1 : decode cX10_isCode 1 = .ok (.iconst 0, 1) := by decide +kernel
theorem dX10_isCode_2 : decode cX10_isCode 2 = .ok (.aload_n 0, 1) := by decide +kernel
theorem dX10_isCode_3 : decode cX10_isCode 3 = .ok (.getfield 182, 3) := by decide +kernel
theorem dX10_isCode_6 : decode cX10_isCode 6 = .ok (.iconst 1, 1) := by decide +kernel
theorem dX10_isCode_7 : decode cX10_isCode 7 = .ok (.isub, 1) := by decide +kernel
theorem dX10_isCode_8 : decode cX10_isCode 8 = .ok (.invokestatic 168, 3) := by decide +kernel
theorem dX10_isCode_11 : decode cX10_isCode 11 = .ok (.ireturn, 1) := by decide +kernel
theorem dX10_turn_0 : decode cX10_turn 0 = .ok (.aload_n 0, 1) := by decide +kernel
theorem dX10_turn_1 : decode cX10_turn 1 = .ok (.iload_n 1, 1) := by decide +kernel
theorem dX10_turn_2 : decode cX10_turn 2 = .ok (.invokevirtual 185, 3) := by decide +kernel
theorem dX10_turn_5 : decode cX10_turn 5 = .ok (.ifCond .eq 11, 3) := by decide +kernel
theorem dX10_turn_8 : decode cX10_turn 8 = .ok (.aload_n 0, 1) := by decide +kernel
theorem dX10_turn_9 : decode cX10_turn 9 = .ok (.iload_n 2, 1) := by decide +kernel
theorem dX10_turn_10 : decode cX10_turn 10 = .ok (.invokevirtual 185, 3) := by decide +kernel
theorem dX10_turn_13 : decode cX10_turn 13 = .ok (.ifCond .ne 9, 3) := by decide +kernel
theorem dX10_turn_16 : decode cX10_turn 16 = .ok (.aload_n 0, 1) := by decide +kernel
theorem dX10_turn_17 : decode cX10_turn 17 = .ok (.iconst (-1), 1) := by decide +kernel
theorem dX10_turn_18 : decode cX10_turn 18 = .ok (.invokevirtual 175, 3) := by decide +kernel
theorem dX10_turn_21 : decode cX10_turn 21 = .ok (.ireturn, 1) := by decide +kernel
theorem dX10_turn_22 : decode cX10_turn 22 = .ok (.aload_n 0, 1) := by decide +kernel
theorem dX10_turn_23 : decode cX10_turn 23 = .ok (.getfield 19, 3) := by decide +kernel
theorem dX10_turn_26 : decode cX10_turn 26 = .ok (.iload_n 1, 1) := by decide +kernel
theorem dX10_turn_27 : decode cX10_turn 27 = .ok (.iaload, 1) := by decide +kernel
theorem dX10_turn_28 : decode cX10_turn 28 = .ok (.ifCond .ge 8, 3) := by decide +kernel
theorem dX10_turn_31 : decode cX10_turn 31 = .ok (.iload_n 2, 1) := by decide +kernel
theorem dX10_turn_32 : decode cX10_turn 32 = .ok (.iload_n 1, 1) := by decide +kernel
theorem dX10_turn_33 : decode cX10_turn 33 = .ok (.if_icmp .gt 10, 3) := by decide +kernel
theorem dX10_turn_36 : decode cX10_turn 36 = .ok (.aload_n 0, 1) := by decide +kernel
theorem dX10_turn_37 : decode cX10_turn 37 = .ok (.bipush (-3), 2) := by decide +kernel
theorem dX10_turn_39 : decode cX10_turn 39 = .ok (.invokevirtual 175, 3) := by decide +kernel
theorem dX10_turn_42 : decode cX10_turn 42 = .ok (.ireturn, 1) := by decide +kernel
theorem dX10_turn_43 : decode cX10_turn 43 = .ok (.iload_n 3, 1) := by decide +kernel
theorem dX10_turn_44 : decode cX10_turn 44 = .ok (.aload_n 0, 1) := by decide +kernel
theorem dX10_turn_45 : decode cX10_turn 45 = .ok (.getfield 179, 3) := by decide +kernel
theorem dX10_turn_48 : decode cX10_turn 48 = .ok (.if_icmp .ge 10, 3) := by decide +kernel
theorem dX10_turn_51 : decode cX10_turn 51 = .ok (.aload_n 0, 1) := by decide +kernel
theorem dX10_turn_52 : decode cX10_turn 52 = .ok (.bipush (-4), 2) := by decide +kernel
theorem dX10_turn_54 : decode cX10_turn 54 = .ok (.invokevirtual 175, 3) := by decide +kernel
theorem dX10_turn_57 : decode cX10_turn 57 = .ok (.ireturn, 1) := by decide +kernel
theorem dX10_turn_58 : decode cX10_turn 58 = .ok (.iload_n 3, 1) := by decide +kernel
theorem dX10_turn_59 : decode cX10_turn 59 = .ok (.sipush 1500, 3) := by decide +kernel
theorem dX10_turn_62 : decode cX10_turn 62 = .ok (.if_icmp .le 10, 3) := by decide +kernel
theorem dX10_turn_65 : decode cX10_turn 65 = .ok (.aload_n 0, 1) := by decide +kernel
theorem dX10_turn_66 : decode cX10_turn 66 = .ok (.bipush (-6), 2) := by decide +kernel
theorem dX10_turn_68 : decode cX10_turn 68 = .ok (.invokevirtual 175, 3) := by decide +kernel
theorem dX10_turn_71 : decode cX10_turn 71 = .ok (.ireturn, 1) := by decide +kernel
theorem dX10_turn_72 : decode cX10_turn 72 = .ok (.aload_n 0, 1) := by decide +kernel
theorem dX10_turn_73 : decode cX10_turn 73 = .ok (.getfield 19, 3) := by decide +kernel
theorem dX10_turn_76 : decode cX10_turn 76 = .ok (.iload_n 1, 1) := by decide +kernel
theorem dX10_turn_77 : decode cX10_turn 77 = .ok (.iload_n 2, 1) := by decide +kernel
theorem dX10_turn_78 : decode cX10_turn 78 = .ok (.iastore, 1) := by decide +kernel
theorem dX10_turn_79 : decode cX10_turn 79 = .ok (.aload_n 0, 1) := by decide +kernel
theorem dX10_turn_80 : decode cX10_turn 80 = .ok (.getfield 22, 3) := by decide +kernel
theorem dX10_turn_83 : decode cX10_turn 83 = .ok (.iload_n 1, 1) := by decide +kernel
theorem dX10_turn_84 : decode cX10_turn 84 = .ok (.iload_n 3, 1) := by decide +kernel
theorem dX10_turn_85 : decode cX10_turn 85 = .ok (.iastore, 1) := by decide +kernel
theorem dX10_turn_86 : decode cX10_turn 86 = .ok (.iconst 1, 1) := by decide +kernel
theorem dX10_turn_87 : decode cX10_turn 87 = .ok (.ireturn, 1) := by decide +kernel
theorem dX10_standsFor_0 : decode cX10_standsFor 0 = .ok (.iload_n 1, 1) := by decide +kernel
theorem dX10_standsFor_1 : decode cX10_standsFor 1 = .ok (.istore_n 3, 1) := by decide +kernel
theorem dX10_standsFor_2 : decode cX10_standsFor 2 = .ok (.aload_n 0, 1) := by decide +kernel
theorem dX10_standsFor_3 : decode cX10_standsFor 3 = .ok (.getfield 19, 3) := by decide +kernel
theorem dX10_standsFor_6 : decode cX10_standsFor 6 = .ok (.iload_n 3, 1) := by decide +kernel
theorem dX10_standsFor_7 : decode cX10_standsFor 7 = .ok (.iaload, 1) := by decide +kernel
theorem dX10_standsFor_8 : decode cX10_standsFor 8 = .ok (.ifCond .lt 23, 3) := by decide +kernel
theorem dX10_standsFor_11 : decode cX10_standsFor 11 = .ok (.aload_n 0, 1) := by decide +kernel
theorem dX10_standsFor_12 : decode cX10_standsFor 12 = .ok (.getfield 22, 3) := by decide +kernel
theorem dX10_standsFor_15 : decode cX10_standsFor 15 = .ok (.iload_n 3, 1) := by decide +kernel
theorem dX10_standsFor_16 : decode cX10_standsFor 16 = .ok (.iaload, 1) := by decide +kernel
theorem dX10_standsFor_17 : decode cX10_standsFor 17 = .ok (.iload_n 2, 1) := by decide +kernel
theorem dX10_standsFor_18 : decode cX10_standsFor 18 = .ok (.if_icmp .gt 13, 3) := by decide +kernel
theorem dX10_standsFor_21 : decode cX10_standsFor 21 = .ok (.aload_n 0, 1) := by decide +kernel
theorem dX10_standsFor_22 : decode cX10_standsFor 22 = .ok (.getfield 19, 3) := by decide +kernel
theorem dX10_standsFor_25 : decode cX10_standsFor 25 = .ok (.iload_n 3, 1) := by decide +kernel
theorem dX10_standsFor_26 : decode cX10_standsFor 26 = .ok (.iaload, 1) := by decide +kernel
theorem dX10_standsFor_27 : decode cX10_standsFor 27 = .ok (.istore_n 3, 1) := by decide +kernel
theorem dX10_standsFor_28 : decode cX10_standsFor 28 = .ok (.goto (-26), 3) := by decide +kernel
theorem dX10_standsFor_31 : decode cX10_standsFor 31 = .ok (.iload_n 3, 1) := by decide +kernel
theorem dX10_standsFor_32 : decode cX10_standsFor 32 = .ok (.ireturn, 1) := by decide +kernel
theorem dX10_stands_0 : decode cX10_stands 0 = .ok (.aload_n 0, 1) := by decide +kernel
theorem dX10_stands_1 : decode cX10_stands 1 = .ok (.iload_n 1, 1) := by decide +kernel
theorem dX10_stands_2 : decode cX10_stands 2 = .ok (.invokevirtual 185, 3) := by decide +kernel
theorem dX10_stands_5 : decode cX10_stands 5 = .ok (.ifCond .ne 9, 3) := by decide +kernel
theorem dX10_stands_8 : decode cX10_stands 8 = .ok (.aload_n 0, 1) := by decide +kernel
theorem dX10_stands_9 : decode cX10_stands 9 = .ok (.iconst (-1), 1) := by decide +kernel
theorem dX10_stands_10 : decode cX10_stands 10 = .ok (.invokevirtual 175, 3) := by decide +kernel
theorem dX10_stands_13 : decode cX10_stands 13 = .ok (.ireturn, 1) := by decide +kernel
theorem dX10_stands_14 : decode cX10_stands 14 = .ok (.iload_n 2, 1) := by decide +kernel
theorem dX10_stands_15 : decode cX10_stands 15 = .ok (.invokestatic 189, 3) := by decide +kernel
theorem dX10_stands_18 : decode cX10_stands 18 = .ok (.ifCond .ge 14, 3) := by decide +kernel
theorem dX10_stands_21 : decode cX10_stands 21 = .ok (.aload_n 0, 1) := by decide +kernel
theorem dX10_stands_22 : decode cX10_stands 22 = .ok (.iload_n 2, 1) := by decide +kernel
theorem dX10_stands_23 : decode cX10_stands 23 = .ok (.invokestatic 189, 3) := by decide +kernel
theorem dX10_stands_26 : decode cX10_stands 26 = .ok (.invokevirtual 175, 3) := by decide +kernel
theorem dX10_stands_29 : decode cX10_stands 29 = .ok (.goto 9, 3) := by decide +kernel
theorem dX10_stands_32 : decode cX10_stands 32 = .ok (.aload_n 0, 1) := by decide +kernel
theorem dX10_stands_33 : decode cX10_stands 33 = .ok (.iload_n 1, 1) := by decide +kernel
theorem dX10_stands_34 : decode cX10_stands 34 = .ok (.iload_n 2, 1) := by decide +kernel
theorem dX10_stands_35 : decode cX10_stands 35 = .ok (.invokevirtual 192, 3) := by decide +kernel
theorem dX10_stands_38 : decode cX10_stands 38 = .ok (.ireturn, 1) := by decide +kernel
theorem dX10_most_0 : decode cX10_most 0 = .ok (.iload_n 1, 1) := by decide +kernel
theorem dX10_most_1 : decode cX10_most 1 = .ok (.iconst 0, 1) := by decide +kernel
theorem dX10_most_2 : decode cX10_most 2 = .ok (.iconst 4, 1) := by decide +kernel
theorem dX10_most_3 : decode cX10_most 3 = .ok (.invokestatic 168, 3) := by decide +kernel
theorem dX10_most_6 : decode cX10_most 6 = .ok (.ifCond .ne 9, 3) := by decide +kernel
theorem dX10_most_9 : decode cX10_most 9 = .ok (.aload_n 0, 1) := by decide +kernel
theorem dX10_most_10 : decode cX10_most 10 = .ok (.iconst (-1), 1) := by decide +kernel
theorem dX10_most_11 : decode cX10_most 11 = .ok (.invokevirtual 175, 3) := by decide +kernel
theorem dX10_most_14 : decode cX10_most 14 = .ok (.ireturn, 1) := by decide +kernel
theorem dX10_most_15 : decode cX10_most 15 = .ok (.iload_n 2, 1) := by decide +kernel
theorem dX10_most_16 : decode cX10_most 16 = .ok (.ifCond .ge 10, 3) := by decide +kernel
theorem dX10_most_19 : decode cX10_most 19 = .ok (.aload_n 0, 1) := by decide +kernel
theorem dX10_most_20 : decode cX10_most 20 = .ok (.bipush (-4), 2) := by decide +kernel
theorem dX10_most_22 : decode cX10_most 22 = .ok (.invokevirtual 175, 3) := by decide +kernel
theorem dX10_most_25 : decode cX10_most 25 = .ok (.ireturn, 1) := by decide +kernel
theorem dX10_most_26 : decode cX10_most 26 = .ok (.iload_n 2, 1) := by decide +kernel
theorem dX10_most_27 : decode cX10_most 27 = .ok (.sipush 200, 3) := by decide +kernel
theorem dX10_most_30 : decode cX10_most 30 = .ok (.if_icmp .le 10, 3) := by decide +kernel
theorem dX10_most_33 : decode cX10_most 33 = .ok (.aload_n 0, 1) := by decide +kernel
theorem dX10_most_34 : decode cX10_most 34 = .ok (.bipush (-6), 2) := by decide +kernel
theorem dX10_most_36 : decode cX10_most 36 = .ok (.invokevirtual 175, 3) := by decide +kernel
theorem dX10_most_39 : decode cX10_most 39 = .ok (.ireturn, 1) := by decide +kernel
theorem dX10_most_40 : decode cX10_most 40 = .ok (.aload_n 0, 1) := by decide +kernel
theorem dX10_most_41 : decode cX10_most 41 = .ok (.getfield 25, 3) := by decide +kernel
theorem dX10_most_44 : decode cX10_most 44 = .ok (.iload_n 1, 1) := by decide +kernel
theorem dX10_most_45 : decode cX10_most 45 = .ok (.iaload, 1) := by decide +kernel
theorem dX10_most_46 : decode cX10_most 46 = .ok (.istore_n 3, 1) := by decide +kernel
theorem dX10_most_47 : decode cX10_most 47 = .ok (.aload_n 0, 1) := by decide +kernel
theorem dX10_most_48 : decode cX10_most 48 = .ok (.getfield 25, 3) := by decide +kernel
theorem dX10_most_51 : decode cX10_most 51 = .ok (.iload_n 1, 1) := by decide +kernel
theorem dX10_most_52 : decode cX10_most 52 = .ok (.iload_n 2, 1) := by decide +kernel
theorem dX10_most_53 : decode cX10_most 53 = .ok (.iastore, 1) := by decide +kernel
theorem dX10_most_54 : decode cX10_most 54 = .ok (.iload_n 3, 1) := by decide +kernel
theorem dX10_most_55 : decode cX10_most 55 = .ok (.ireturn, 1) := by decide +kernel
theorem dX10_kitchen_0 : decode cX10_kitchen 0 = .ok (.iload_n 1, 1) := by decide +kernel
theorem dX10_kitchen_1 : decode cX10_kitchen 1 = .ok (.iconst 0, 1) := by decide +kernel
theorem dX10_kitchen_2 : decode cX10_kitchen 2 = .ok (.iconst 3, 1) := by decide +kernel
theorem dX10_kitchen_3 : decode cX10_kitchen 3 = .ok (.invokestatic 168, 3) := by decide +kernel
theorem dX10_kitchen_6 : decode cX10_kitchen 6 = .ok (.ifCond .ne 10, 3) := by decide +kernel
theorem dX10_kitchen_9 : decode cX10_kitchen 9 = .ok (.aload_n 0, 1) := by decide +kernel
theorem dX10_kitchen_10 : decode cX10_kitchen 10 = .ok (.bipush (-2), 2) := by decide +kernel
theorem dX10_kitchen_12 : decode cX10_kitchen 12 = .ok (.invokevirtual 175, 3) := by decide +kernel
theorem dX10_kitchen_15 : decode cX10_kitchen 15 = .ok (.ireturn, 1) := by decide +kernel
theorem dX10_kitchen_16 : decode cX10_kitchen 16 = .ok (.iload_n 2, 1) := by decide +kernel
theorem dX10_kitchen_17 : decode cX10_kitchen 17 = .ok (.iconst 0, 1) := by decide +kernel
theorem dX10_kitchen_18 : decode cX10_kitchen 18 = .ok (.iconst 5, 1) := by decide +kernel
theorem dX10_kitchen_19 : decode cX10_kitchen 19 = .ok (.invokestatic 168, 3) := by decide +kernel
theorem dX10_kitchen_22 : decode cX10_kitchen 22 = .ok (.ifCond .eq 14, 3) := by decide +kernel
theorem dX10_kitchen_25 : decode cX10_kitchen 25 = .ok (.iload 4, 2) := by decide +kernel
theorem dX10_kitchen_27 : decode cX10_kitchen 27 = .ok (.iconst 0, 1) := by decide +kernel
theorem dX10_kitchen_28 : decode cX10_kitchen 28 = .ok (.bipush 9, 2) := by decide +kernel
theorem dX10_kitchen_30 : decode cX10_kitchen 30 = .ok (.invokestatic 168, 3) := by decide +kernel
theorem dX10_kitchen_33 : decode cX10_kitchen 33 = .ok (.ifCond .ne 9, 3) := by decide +kernel
theorem dX10_kitchen_36 : decode cX10_kitchen 36 = .ok (.aload_n 0, 1) := by decide +kernel
theorem dX10_kitchen_37 : decode cX10_kitchen 37 = .ok (.iconst (-1), 1) := by decide +kernel
theorem dX10_kitchen_38 : decode cX10_kitchen 38 = .ok (.invokevirtual 175, 3) := by decide +kernel
theorem dX10_kitchen_41 : decode cX10_kitchen 41 = .ok (.ireturn, 1) := by decide +kernel
theorem dX10_kitchen_42 : decode cX10_kitchen 42 = .ok (.iload_n 3, 1) := by decide +kernel
theorem dX10_kitchen_43 : decode cX10_kitchen 43 = .ok (.iconst 1, 1) := by decide +kernel
theorem dX10_kitchen_44 : decode cX10_kitchen 44 = .ok (.if_icmp .lt 8, 3) := by decide +kernel
theorem dX10_kitchen_47 : decode cX10_kitchen 47 = .ok (.iload 5, 2) := by decide +kernel
theorem dX10_kitchen_49 : decode cX10_kitchen 49 = .ok (.ifCond .ge 10, 3) := by decide +kernel
theorem dX10_kitchen_52 : decode cX10_kitchen 52 = .ok (.aload_n 0, 1) := by decide +kernel
theorem dX10_kitchen_53 : decode cX10_kitchen 53 = .ok (.bipush (-4), 2) := by decide +kernel
theorem dX10_kitchen_55 : decode cX10_kitchen 55 = .ok (.invokevirtual 175, 3) := by decide +kernel
theorem dX10_kitchen_58 : decode cX10_kitchen 58 = .ok (.ireturn, 1) := by decide +kernel
theorem dX10_kitchen_59 : decode cX10_kitchen 59 = .ok (.iload_n 3, 1) := by decide +kernel
theorem dX10_kitchen_60 : decode cX10_kitchen 60 = .ok (.sipush 999, 3) := by decide +kernel
theorem dX10_kitchen_63 : decode cX10_kitchen 63 = .ok (.if_icmp .gt 20, 3) := by decide +kernel
theorem dX10_kitchen_66 : decode cX10_kitchen 66 = .ok (.iload 5, 2) := by decide +kernel
theorem dX10_kitchen_68 : decode cX10_kitchen 68 = .ok (.sipush 255, 3) := by decide +kernel
theorem dX10_kitchen_71 : decode cX10_kitchen 71 = .ok (.if_icmp .gt 12, 3) := by decide +kernel
theorem dX10_kitchen_74 : decode cX10_kitchen 74 = .ok (.aload_n 0, 1) := by decide +kernel
theorem dX10_kitchen_75 : decode cX10_kitchen 75 = .ok (.getfield 165, 3) := by decide +kernel
theorem dX10_kitchen_78 : decode cX10_kitchen 78 = .ok (.bipush 20, 2) := by decide +kernel
theorem dX10_kitchen_80 : decode cX10_kitchen 80 = .ok (.if_icmp .ne 10, 3) := by decide +kernel
theorem dX10_kitchen_83 : decode cX10_kitchen 83 = .ok (.aload_n 0, 1) := by decide +kernel
theorem dX10_kitchen_84 : decode cX10_kitchen 84 = .ok (.bipush (-6), 2) := by decide +kernel
theorem dX10_kitchen_86 : decode cX10_kitchen 86 = .ok (.invokevirtual 175, 3) := by decide +kernel
theorem dX10_kitchen_89 : decode cX10_kitchen 89 = .ok (.ireturn, 1) := by decide +kernel
theorem dX10_kitchen_90 : decode cX10_kitchen 90 = .ok (.aload_n 0, 1) := by decide +kernel
theorem dX10_kitchen_91 : decode cX10_kitchen 91 = .ok (.getfield 28, 3) := by decide +kernel
theorem dX10_kitchen_94 : decode cX10_kitchen 94 = .ok (.aload_n 0, 1) := by decide +kernel
theorem dX10_kitchen_95 : decode cX10_kitchen 95 = .ok (.getfield 165, 3) := by decide +kernel
theorem dX10_kitchen_98 : decode cX10_kitchen 98 = .ok (.iload_n 1, 1) := by decide +kernel
theorem dX10_kitchen_99 : decode cX10_kitchen 99 = .ok (.iastore, 1) := by decide +kernel
theorem dX10_kitchen_100 : decode cX10_kitchen 100 = .ok (.aload_n 0, 1) := by decide +kernel
theorem dX10_kitchen_101 : decode cX10_kitchen 101 = .ok (.getfield 31, 3) := by decide +kernel
theorem dX10_kitchen_104 : decode cX10_kitchen 104 = .ok (.aload_n 0, 1) := by decide +kernel
theorem dX10_kitchen_105 : decode cX10_kitchen 105 = .ok (.getfield 165, 3) := by decide +kernel
theorem dX10_kitchen_108 : decode cX10_kitchen 108 = .ok (.iload_n 2, 1) := by decide +kernel
theorem dX10_kitchen_109 : decode cX10_kitchen 109 = .ok (.iastore, 1) := by decide +kernel
theorem dX10_kitchen_110 : decode cX10_kitchen 110 = .ok (.aload_n 0, 1) := by decide +kernel
theorem dX10_kitchen_111 : decode cX10_kitchen 111 = .ok (.getfield 34, 3) := by decide +kernel
theorem dX10_kitchen_114 : decode cX10_kitchen 114 = .ok (.aload_n 0, 1) := by decide +kernel
theorem dX10_kitchen_115 : decode cX10_kitchen 115 = .ok (.getfield 165, 3) := by decide +kernel
theorem dX10_kitchen_118 : decode cX10_kitchen 118 = .ok (.iload_n 3, 1) := by decide +kernel
theorem dX10_kitchen_119 : decode cX10_kitchen 119 = .ok (.iastore, 1) := by decide +kernel
theorem dX10_kitchen_120 : decode cX10_kitchen 120 = .ok (.aload_n 0, 1) := by decide +kernel
theorem dX10_kitchen_121 : decode cX10_kitchen 121 = .ok (.getfield 37, 3) := by decide +kernel
theorem dX10_kitchen_124 : decode cX10_kitchen 124 = .ok (.aload_n 0, 1) := by decide +kernel
theorem dX10_kitchen_125 : decode cX10_kitchen 125 = .ok (.getfield 165, 3) := by decide +kernel
theorem dX10_kitchen_128 : decode cX10_kitchen 128 = .ok (.iload 4, 2) := by decide +kernel
theorem dX10_kitchen_130 : decode cX10_kitchen 130 = .ok (.iastore, 1) := by decide +kernel
theorem dX10_kitchen_131 : decode cX10_kitchen 131 = .ok (.aload_n 0, 1) := by decide +kernel
theorem dX10_kitchen_132 : decode cX10_kitchen 132 = .ok (.getfield 40, 3) := by decide +kernel
theorem dX10_kitchen_135 : decode cX10_kitchen 135 = .ok (.aload_n 0, 1) := by decide +kernel
theorem dX10_kitchen_136 : decode cX10_kitchen 136 = .ok (.getfield 165, 3) := by decide +kernel
theorem dX10_kitchen_139 : decode cX10_kitchen 139 = .ok (.iload 5, 2) := by decide +kernel
theorem dX10_kitchen_141 : decode cX10_kitchen 141 = .ok (.iastore, 1) := by decide +kernel
theorem dX10_kitchen_142 : decode cX10_kitchen 142 = .ok (.aload_n 0, 1) := by decide +kernel
theorem dX10_kitchen_143 : decode cX10_kitchen 143 = .ok (.dup, 1) := by decide +kernel
theorem dX10_kitchen_144 : decode cX10_kitchen 144 = .ok (.getfield 165, 3) := by decide +kernel
theorem dX10_kitchen_147 : decode cX10_kitchen 147 = .ok (.iconst 1, 1) := by decide +kernel
theorem dX10_kitchen_148 : decode cX10_kitchen 148 = .ok (.iadd, 1) := by decide +kernel
theorem dX10_kitchen_149 : decode cX10_kitchen 149 = .ok (.putfield 165, 3) := by decide +kernel
theorem dX10_kitchen_152 : decode cX10_kitchen 152 = .ok (.aload_n 0, 1) := by decide +kernel
theorem dX10_kitchen_153 : decode cX10_kitchen 153 = .ok (.getfield 165, 3) := by decide +kernel
theorem dX10_kitchen_156 : decode cX10_kitchen 156 = .ok (.iconst 1, 1) := by decide +kernel
theorem dX10_kitchen_157 : decode cX10_kitchen 157 = .ok (.isub, 1) := by decide +kernel
theorem dX10_kitchen_158 : decode cX10_kitchen 158 = .ok (.ireturn, 1) := by decide +kernel
theorem dX10_hard_0 : decode cX10_hard 0 = .ok (.aload_n 0, 1) := by decide +kernel
theorem dX10_hard_1 : decode cX10_hard 1 = .ok (.iload_n 1, 1) := by decide +kernel
theorem dX10_hard_2 : decode cX10_hard 2 = .ok (.invokevirtual 196, 3) := by decide +kernel
theorem dX10_hard_5 : decode cX10_hard 5 = .ok (.ifCond .ne 9, 3) := by decide +kernel
theorem dX10_hard_8 : decode cX10_hard 8 = .ok (.aload_n 0, 1) := by decide +kernel
theorem dX10_hard_9 : decode cX10_hard 9 = .ok (.iconst (-1), 1) := by decide +kernel
theorem dX10_hard_10 : decode cX10_hard 10 = .ok (.invokevirtual 175, 3) := by decide +kernel
theorem dX10_hard_13 : decode cX10_hard 13 = .ok (.ireturn, 1) := by decide +kernel
theorem dX10_hard_14 : decode cX10_hard 14 = .ok (.aload_n 0, 1) := by decide +kernel
theorem dX10_hard_15 : decode cX10_hard 15 = .ok (.getfield 43, 3) := by decide +kernel
theorem dX10_hard_18 : decode cX10_hard 18 = .ok (.iload_n 1, 1) := by decide +kernel
theorem dX10_hard_19 : decode cX10_hard 19 = .ok (.baload, 1) := by decide +kernel
theorem dX10_hard_20 : decode cX10_hard 20 = .ok (.istore_n 3, 1) := by decide +kernel
theorem dX10_hard_21 : decode cX10_hard 21 = .ok (.aload_n 0, 1) := by decide +kernel
theorem dX10_hard_22 : decode cX10_hard 22 = .ok (.getfield 43, 3) := by decide +kernel
theorem dX10_hard_25 : decode cX10_hard 25 = .ok (.iload_n 1, 1) := by decide +kernel
theorem dX10_hard_26 : decode cX10_hard 26 = .ok (.iload_n 2, 1) := by decide +kernel
theorem dX10_hard_27 : decode cX10_hard 27 = .ok (.bastore, 1) := by decide +kernel
theorem dX10_hard_28 : decode cX10_hard 28 = .ok (.iload_n 3, 1) := by decide +kernel
theorem dX10_hard_29 : decode cX10_hard 29 = .ok (.iload_n 2, 1) := by decide +kernel
theorem dX10_hard_30 : decode cX10_hard 30 = .ok (.if_icmp .ne 7, 3) := by decide +kernel
theorem dX10_hard_33 : decode cX10_hard 33 = .ok (.iconst 0, 1) := by decide +kernel
theorem dX10_hard_34 : decode cX10_hard 34 = .ok (.goto 4, 3) := by decide +kernel
theorem dX10_hard_37 : decode cX10_hard 37 = .ok (.iconst 1, 1) := by decide +kernel
theorem dX10_hard_38 : decode cX10_hard 38 = .ok (.ireturn, 1) := by decide +kernel
theorem dX10_kin_0 : decode cX10_kin 0 = .ok (.iload_n 1, 1) := by decide +kernel
theorem dX10_kin_1 : decode cX10_kin 1 = .ok (.iconst 0, 1) := by decide +kernel
theorem dX10_kin_2 : decode cX10_kin 2 = .ok (.iconst 4, 1) := by decide +kernel
theorem dX10_kin_3 : decode cX10_kin 3 = .ok (.invokestatic 168, 3) := by decide +kernel
theorem dX10_kin_6 : decode cX10_kin 6 = .ok (.ifCond .eq 13, 3) := by decide +kernel
theorem dX10_kin_9 : decode cX10_kin 9 = .ok (.iload_n 2, 1) := by decide +kernel
theorem dX10_kin_10 : decode cX10_kin 10 = .ok (.iconst 0, 1) := by decide +kernel
theorem dX10_kin_11 : decode cX10_kin 11 = .ok (.bipush 9, 2) := by decide +kernel
theorem dX10_kin_13 : decode cX10_kin 13 = .ok (.invokestatic 168, 3) := by decide +kernel
theorem dX10_kin_16 : decode cX10_kin 16 = .ok (.ifCond .ne 9, 3) := by decide +kernel
theorem dX10_kin_19 : decode cX10_kin 19 = .ok (.aload_n 0, 1) := by decide +kernel
theorem dX10_kin_20 : decode cX10_kin 20 = .ok (.iconst (-1), 1) := by decide +kernel
theorem dX10_kin_21 : decode cX10_kin 21 = .ok (.invokevirtual 175, 3) := by decide +kernel
theorem dX10_kin_24 : decode cX10_kin 24 = .ok (.ireturn, 1) := by decide +kernel
theorem dX10_kin_25 : decode cX10_kin 25 = .ok (.aload_n 0, 1) := by decide +kernel
theorem dX10_kin_26 : decode cX10_kin 26 = .ok (.getfield 50, 3) := by decide +kernel
theorem dX10_kin_29 : decode cX10_kin 29 = .ok (.bipush 10, 2) := by decide +kernel
theorem dX10_kin_31 : decode cX10_kin 31 = .ok (.iload_n 1, 1) := by decide +kernel
theorem dX10_kin_32 : decode cX10_kin 32 = .ok (.imul, 1) := by decide +kernel
theorem dX10_kin_33 : decode cX10_kin 33 = .ok (.iload_n 2, 1) := by decide +kernel
theorem dX10_kin_34 : decode cX10_kin 34 = .ok (.iadd, 1) := by decide +kernel
theorem dX10_kin_35 : decode cX10_kin 35 = .ok (.baload, 1) := by decide +kernel
theorem dX10_kin_36 : decode cX10_kin 36 = .ok (.istore 4, 2) := by decide +kernel
theorem dX10_kin_38 : decode cX10_kin 38 = .ok (.aload_n 0, 1) := by decide +kernel
theorem dX10_kin_39 : decode cX10_kin 39 = .ok (.getfield 50, 3) := by decide +kernel
theorem dX10_kin_42 : decode cX10_kin 42 = .ok (.bipush 10, 2) := by decide +kernel
theorem dX10_kin_44 : decode cX10_kin 44 = .ok (.iload_n 1, 1) := by decide +kernel
theorem dX10_kin_45 : decode cX10_kin 45 = .ok (.imul, 1) := by decide +kernel
theorem dX10_kin_46 : decode cX10_kin 46 = .ok (.iload_n 2, 1) := by decide +kernel
theorem dX10_kin_47 : decode cX10_kin 47 = .ok (.iadd, 1) := by decide +kernel
theorem dX10_kin_48 : decode cX10_kin 48 = .ok (.iload_n 3, 1) := by decide +kernel
theorem dX10_kin_49 : decode cX10_kin 49 = .ok (.bastore, 1) := by decide +kernel
theorem dX10_kin_50 : decode cX10_kin 50 = .ok (.iload 4, 2) := by decide +kernel
theorem dX10_kin_52 : decode cX10_kin 52 = .ok (.iload_n 3, 1) := by decide +kernel
theorem dX10_kin_53 : decode cX10_kin 53 = .ok (.if_icmp .ne 7, 3) := by decide +kernel
theorem dX10_kin_56 : decode cX10_kin 56 = .ok (.iconst 0, 1) := by decide +kernel
theorem dX10_kin_57 : decode cX10_kin 57 = .ok (.goto 4, 3) := by decide +kernel
theorem dX10_kin_60 : decode cX10_kin 60 = .ok (.iconst 1, 1) := by decide +kernel
theorem dX10_kin_61 : decode cX10_kin 61 = .ok (.ireturn, 1) := by decide +kernel
theorem dX10_look_0 : decode cX10_look 0 = .ok (.aload_n 0, 1) := by decide +kernel
theorem dX10_look_1 : decode cX10_look 1 = .ok (.iload_n 1, 1) := by decide +kernel
theorem dX10_look_2 : decode cX10_look 2 = .ok (.invokevirtual 196, 3) := by decide +kernel
theorem dX10_look_5 : decode cX10_look 5 = .ok (.ifCond .eq 12, 3) := by decide +kernel
theorem dX10_look_8 : decode cX10_look 8 = .ok (.iload_n 2, 1) := by decide +kernel
theorem dX10_look_9 : decode cX10_look 9 = .ok (.iconst 0, 1) := by decide +kernel
theorem dX10_look_10 : decode cX10_look 10 = .ok (.iconst 4, 1) := by decide +kernel
theorem dX10_look_11 : decode cX10_look 11 = .ok (.invokestatic 168, 3) := by decide +kernel
theorem dX10_look_14 : decode cX10_look 14 = .ok (.ifCond .ne 9, 3) := by decide +kernel
theorem dX10_look_17 : decode cX10_look 17 = .ok (.aload_n 0, 1) := by decide +kernel
theorem dX10_look_18 : decode cX10_look 18 = .ok (.iconst (-1), 1) := by decide +kernel
theorem dX10_look_19 : decode cX10_look 19 = .ok (.invokevirtual 175, 3) := by decide +kernel
theorem dX10_look_22 : decode cX10_look 22 = .ok (.ireturn, 1) := by decide +kernel
theorem dX10_look_23 : decode cX10_look 23 = .ok (.aload_n 0, 1) := by decide +kernel
theorem dX10_look_24 : decode cX10_look 24 = .ok (.getfield 50, 3) := by decide +kernel
theorem dX10_look_27 : decode cX10_look 27 = .ok (.bipush 10, 2) := by decide +kernel
theorem dX10_look_29 : decode cX10_look 29 = .ok (.iload_n 2, 1) := by decide +kernel
theorem dX10_look_30 : decode cX10_look 30 = .ok (.imul, 1) := by decide +kernel
theorem dX10_look_31 : decode cX10_look 31 = .ok (.aload_n 0, 1) := by decide +kernel
theorem dX10_look_32 : decode cX10_look 32 = .ok (.getfield 37, 3) := by decide +kernel
theorem dX10_look_35 : decode cX10_look 35 = .ok (.iload_n 1, 1) := by decide +kernel
theorem dX10_look_36 : decode cX10_look 36 = .ok (.iaload, 1) := by decide +kernel
theorem dX10_look_37 : decode cX10_look 37 = .ok (.iadd, 1) := by decide +kernel
theorem dX10_look_38 : decode cX10_look 38 = .ok (.baload, 1) := by decide +kernel
theorem dX10_look_39 : decode cX10_look 39 = .ok (.ifCond .eq 10, 3) := by decide +kernel
theorem dX10_look_42 : decode cX10_look 42 = .ok (.aload_n 0, 1) := by decide +kernel
theorem dX10_look_43 : decode cX10_look 43 = .ok (.bipush (-7), 2) := by decide +kernel
theorem dX10_look_45 : decode cX10_look 45 = .ok (.invokevirtual 175, 3) := by decide +kernel
theorem dX10_look_48 : decode cX10_look 48 = .ok (.ireturn, 1) := by decide +kernel
theorem dX10_look_49 : decode cX10_look 49 = .ok (.iload_n 3, 1) := by decide +kernel
theorem dX10_look_50 : decode cX10_look 50 = .ok (.aload_n 0, 1) := by decide +kernel
theorem dX10_look_51 : decode cX10_look 51 = .ok (.getfield 179, 3) := by decide +kernel
theorem dX10_look_54 : decode cX10_look 54 = .ok (.if_icmp .le 10, 3) := by decide +kernel
theorem dX10_look_57 : decode cX10_look 57 = .ok (.aload_n 0, 1) := by decide +kernel
theorem dX10_look_58 : decode cX10_look 58 = .ok (.bipush (-3), 2) := by decide +kernel
theorem dX10_look_60 : decode cX10_look 60 = .ok (.invokevirtual 175, 3) := by decide +kernel
theorem dX10_look_63 : decode cX10_look 63 = .ok (.ireturn, 1) := by decide +kernel
theorem dX10_look_64 : decode cX10_look 64 = .ok (.iload_n 3, 1) := by decide +kernel
theorem dX10_look_65 : decode cX10_look 65 = .ok (.ifCond .ge 10, 3) := by decide +kernel
theorem dX10_look_68 : decode cX10_look 68 = .ok (.aload_n 0, 1) := by decide +kernel
theorem dX10_look_69 : decode cX10_look 69 = .ok (.bipush (-4), 2) := by decide +kernel
theorem dX10_look_71 : decode cX10_look 71 = .ok (.invokevirtual 175, 3) := by decide +kernel
theorem dX10_look_74 : decode cX10_look 74 = .ok (.ireturn, 1) := by decide +kernel
theorem dX10_look_75 : decode cX10_look 75 = .ok (.aload_n 0, 1) := by decide +kernel
theorem dX10_look_76 : decode cX10_look 76 = .ok (.getfield 172, 3) := by decide +kernel
theorem dX10_look_79 : decode cX10_look 79 = .ok (.bipush 80, 2) := by decide +kernel
theorem dX10_look_81 : decode cX10_look 81 = .ok (.if_icmp .ne 10, 3) := by decide +kernel
theorem dX10_look_84 : decode cX10_look 84 = .ok (.aload_n 0, 1) := by decide +kernel
theorem dX10_look_85 : decode cX10_look 85 = .ok (.bipush (-6), 2) := by decide +kernel
theorem dX10_look_87 : decode cX10_look 87 = .ok (.invokevirtual 175, 3) := by decide +kernel
theorem dX10_look_90 : decode cX10_look 90 = .ok (.ireturn, 1) := by decide +kernel
theorem dX10_look_91 : decode cX10_look 91 = .ok (.aload_n 0, 1) := by decide +kernel
theorem dX10_look_92 : decode cX10_look 92 = .ok (.getfield 53, 3) := by decide +kernel
theorem dX10_look_95 : decode cX10_look 95 = .ok (.aload_n 0, 1) := by decide +kernel
theorem dX10_look_96 : decode cX10_look 96 = .ok (.getfield 172, 3) := by decide +kernel
theorem dX10_look_99 : decode cX10_look 99 = .ok (.iload_n 1, 1) := by decide +kernel
theorem dX10_look_100 : decode cX10_look 100 = .ok (.iastore, 1) := by decide +kernel
theorem dX10_look_101 : decode cX10_look 101 = .ok (.aload_n 0, 1) := by decide +kernel
theorem dX10_look_102 : decode cX10_look 102 = .ok (.getfield 56, 3) := by decide +kernel
theorem dX10_look_105 : decode cX10_look 105 = .ok (.aload_n 0, 1) := by decide +kernel
theorem dX10_look_106 : decode cX10_look 106 = .ok (.getfield 172, 3) := by decide +kernel
theorem dX10_look_109 : decode cX10_look 109 = .ok (.iload_n 2, 1) := by decide +kernel
theorem dX10_look_110 : decode cX10_look 110 = .ok (.iastore, 1) := by decide +kernel
theorem dX10_look_111 : decode cX10_look 111 = .ok (.aload_n 0, 1) := by decide +kernel
theorem dX10_look_112 : decode cX10_look 112 = .ok (.getfield 59, 3) := by decide +kernel
theorem dX10_look_115 : decode cX10_look 115 = .ok (.aload_n 0, 1) := by decide +kernel
theorem dX10_look_116 : decode cX10_look 116 = .ok (.getfield 172, 3) := by decide +kernel
theorem dX10_look_119 : decode cX10_look 119 = .ok (.iload_n 3, 1) := by decide +kernel
theorem dX10_look_120 : decode cX10_look 120 = .ok (.iastore, 1) := by decide +kernel
theorem dX10_look_121 : decode cX10_look 121 = .ok (.aload_n 0, 1) := by decide +kernel
theorem dX10_look_122 : decode cX10_look 122 = .ok (.getfield 62, 3) := by decide +kernel
theorem dX10_look_125 : decode cX10_look 125 = .ok (.aload_n 0, 1) := by decide +kernel
theorem dX10_look_126 : decode cX10_look 126 = .ok (.getfield 172, 3) := by decide +kernel
theorem dX10_look_129 : decode cX10_look 129 = .ok (.aload_n 0, 1) := by decide +kernel
theorem dX10_look_130 : decode cX10_look 130 = .ok (.getfield 179, 3) := by decide +kernel
theorem dX10_look_133 : decode cX10_look 133 = .ok (.iastore, 1) := by decide +kernel
theorem dX10_look_134 : decode cX10_look 134 = .ok (.aload_n 0, 1) := by decide +kernel
theorem dX10_look_135 : decode cX10_look 135 = .ok (.getfield 65, 3) := by decide +kernel
theorem dX10_look_138 : decode cX10_look 138 = .ok (.aload_n 0, 1) := by decide +kernel
theorem dX10_look_139 : decode cX10_look 139 = .ok (.getfield 172, 3) := by decide +kernel
theorem dX10_look_142 : decode cX10_look 142 = .ok (.iconst (-1), 1) := by decide +kernel
theorem dX10_look_143 : decode cX10_look 143 = .ok (.iastore, 1) := by decide +kernel
theorem dX10_look_144 : decode cX10_look 144 = .ok (.aload_n 0, 1) := by decide +kernel
theorem dX10_look_145 : decode cX10_look 145 = .ok (.dup, 1) := by decide +kernel
theorem dX10_look_146 : decode cX10_look 146 = .ok (.getfield 172, 3) := by decide +kernel
theorem dX10_look_149 : decode cX10_look 149 = .ok (.iconst 1, 1) := by decide +kernel
theorem dX10_look_150 : decode cX10_look 150 = .ok (.iadd, 1) := by decide +kernel
theorem dX10_look_151 : decode cX10_look 151 = .ok (.putfield 172, 3) := by decide +kernel
theorem dX10_look_154 : decode cX10_look 154 = .ok (.aload_n 0, 1) := by decide +kernel
theorem dX10_look_155 : decode cX10_look 155 = .ok (.getfield 172, 3) := by decide +kernel
theorem dX10_look_158 : decode cX10_look 158 = .ok (.iconst 1, 1) := by decide +kernel
theorem dX10_look_159 : decode cX10_look 159 = .ok (.isub, 1) := by decide +kernel
theorem dX10_look_160 : decode cX10_look 160 = .ok (.ireturn, 1) := by decide +kernel
theorem dX10_find_0 : decode cX10_find 0 = .ok (.aload_n 0, 1) := by decide +kernel
theorem dX10_find_1 : decode cX10_find 1 = .ok (.iload_n 1, 1) := by decide +kernel
theorem dX10_find_2 : decode cX10_find 2 = .ok (.invokevirtual 185, 3) := by decide +kernel
theorem dX10_find_5 : decode cX10_find 5 = .ok (.ifCond .ne 9, 3) := by decide +kernel
theorem dX10_find_8 : decode cX10_find 8 = .ok (.aload_n 0, 1) := by decide +kernel
theorem dX10_find_9 : decode cX10_find 9 = .ok (.iconst (-1), 1) := by decide +kernel
theorem dX10_find_10 : decode cX10_find 10 = .ok (.invokevirtual 175, 3) := by decide +kernel
theorem dX10_find_13 : decode cX10_find 13 = .ok (.ireturn, 1) := by decide +kernel
theorem dX10_find_14 : decode cX10_find 14 = .ok (.aload_n 0, 1) := by decide +kernel
theorem dX10_find_15 : decode cX10_find 15 = .ok (.getfield 172, 3) := by decide +kernel
theorem dX10_find_18 : decode cX10_find 18 = .ok (.ifCond .eq 37, 3) := by decide +kernel
theorem dX10_find_21 : decode cX10_find 21 = .ok (.aload_n 0, 1) := by decide +kernel
theorem dX10_find_22 : decode cX10_find 22 = .ok (.getfield 65, 3) := by decide +kernel
theorem dX10_find_25 : decode cX10_find 25 = .ok (.aload_n 0, 1) := by decide +kernel
theorem dX10_find_26 : decode cX10_find 26 = .ok (.getfield 172, 3) := by decide +kernel
theorem dX10_find_29 : decode cX10_find 29 = .ok (.iconst 1, 1) := by decide +kernel
theorem dX10_find_30 : decode cX10_find 30 = .ok (.isub, 1) := by decide +kernel
theorem dX10_find_31 : decode cX10_find 31 = .ok (.iaload, 1) := by decide +kernel
theorem dX10_find_32 : decode cX10_find 32 = .ok (.ifCond .ge 23, 3) := by decide +kernel
theorem dX10_find_35 : decode cX10_find 35 = .ok (.aload_n 0, 1) := by decide +kernel
theorem dX10_find_36 : decode cX10_find 36 = .ok (.getfield 16, 3) := by decide +kernel
theorem dX10_find_39 : decode cX10_find 39 = .ok (.iload_n 1, 1) := by decide +kernel
theorem dX10_find_40 : decode cX10_find 40 = .ok (.iaload, 1) := by decide +kernel
theorem dX10_find_41 : decode cX10_find 41 = .ok (.aload_n 0, 1) := by decide +kernel
theorem dX10_find_42 : decode cX10_find 42 = .ok (.getfield 59, 3) := by decide +kernel
theorem dX10_find_45 : decode cX10_find 45 = .ok (.aload_n 0, 1) := by decide +kernel
theorem dX10_find_46 : decode cX10_find 46 = .ok (.getfield 172, 3) := by decide +kernel
theorem dX10_find_49 : decode cX10_find 49 = .ok (.iconst 1, 1) := by decide +kernel
theorem dX10_find_50 : decode cX10_find 50 = .ok (.isub, 1) := by decide +kernel
theorem dX10_find_51 : decode cX10_find 51 = .ok (.iaload, 1) := by decide +kernel
theorem dX10_find_52 : decode cX10_find 52 = .ok (.if_icmp .le 10, 3) := by decide +kernel
theorem dX10_find_55 : decode cX10_find 55 = .ok (.aload_n 0, 1) := by decide +kernel
theorem dX10_find_56 : decode cX10_find 56 = .ok (.bipush (-3), 2) := by decide +kernel
theorem dX10_find_58 : decode cX10_find 58 = .ok (.invokevirtual 175, 3) := by decide +kernel
theorem dX10_find_61 : decode cX10_find 61 = .ok (.ireturn, 1) := by decide +kernel
theorem dX10_find_62 : decode cX10_find 62 = .ok (.iload_n 2, 1) := by decide +kernel
theorem dX10_find_63 : decode cX10_find 63 = .ok (.iconst 1, 1) := by decide +kernel
theorem dX10_find_64 : decode cX10_find 64 = .ok (.if_icmp .ge 10, 3) := by decide +kernel
theorem dX10_find_67 : decode cX10_find 67 = .ok (.aload_n 0, 1) := by decide +kernel
theorem dX10_find_68 : decode cX10_find 68 = .ok (.bipush (-4), 2) := by decide +kernel
theorem dX10_find_70 : decode cX10_find 70 = .ok (.invokevirtual 175, 3) := by decide +kernel
theorem dX10_find_73 : decode cX10_find 73 = .ok (.ireturn, 1) := by decide +kernel
theorem dX10_find_74 : decode cX10_find 74 = .ok (.bipush 40, 2) := by decide +kernel
theorem dX10_find_76 : decode cX10_find 76 = .ok (.aload_n 0, 1) := by decide +kernel
theorem dX10_find_77 : decode cX10_find 77 = .ok (.getfield 172, 3) := by decide +kernel
theorem dX10_find_80 : decode cX10_find 80 = .ok (.iconst 1, 1) := by decide +kernel
theorem dX10_find_81 : decode cX10_find 81 = .ok (.isub, 1) := by decide +kernel
theorem dX10_find_82 : decode cX10_find 82 = .ok (.imul, 1) := by decide +kernel
theorem dX10_find_83 : decode cX10_find 83 = .ok (.iload_n 1, 1) := by decide +kernel
theorem dX10_find_84 : decode cX10_find 84 = .ok (.iadd, 1) := by decide +kernel
theorem dX10_find_85 : decode cX10_find 85 = .ok (.istore_n 3, 1) := by decide +kernel
theorem dX10_find_86 : decode cX10_find 86 = .ok (.iload_n 2, 1) := by decide +kernel
theorem dX10_find_87 : decode cX10_find 87 = .ok (.bipush 9, 2) := by decide +kernel
theorem dX10_find_89 : decode cX10_find 89 = .ok (.if_icmp .gt 16, 3) := by decide +kernel
theorem dX10_find_92 : decode cX10_find 92 = .ok (.aload_n 0, 1) := by decide +kernel
theorem dX10_find_93 : decode cX10_find 93 = .ok (.getfield 68, 3) := by decide +kernel
theorem dX10_find_96 : decode cX10_find 96 = .ok (.iload_n 3, 1) := by decide +kernel
theorem dX10_find_97 : decode cX10_find 97 = .ok (.iaload, 1) := by decide +kernel
theorem dX10_find_98 : decode cX10_find 98 = .ok (.iload_n 2, 1) := by decide +kernel
theorem dX10_find_99 : decode cX10_find 99 = .ok (.iadd, 1) := by decide +kernel
theorem dX10_find_100 : decode cX10_find 100 = .ok (.bipush 99, 2) := by decide +kernel
theorem dX10_find_102 : decode cX10_find 102 = .ok (.if_icmp .le 10, 3) := by decide +kernel
theorem dX10_find_105 : decode cX10_find 105 = .ok (.aload_n 0, 1) := by decide +kernel
theorem dX10_find_106 : decode cX10_find 106 = .ok (.bipush (-6), 2) := by decide +kernel
theorem dX10_find_108 : decode cX10_find 108 = .ok (.invokevirtual 175, 3) := by decide +kernel
theorem dX10_find_111 : decode cX10_find 111 = .ok (.ireturn, 1) := by decide +kernel
theorem dX10_find_112 : decode cX10_find 112 = .ok (.aload_n 0, 1) := by decide +kernel
theorem dX10_find_113 : decode cX10_find 113 = .ok (.getfield 68, 3) := by decide +kernel
theorem dX10_find_116 : decode cX10_find 116 = .ok (.iload_n 3, 1) := by decide +kernel
theorem dX10_find_117 : decode cX10_find 117 = .ok (.dup2, 1) := by decide +kernel
theorem dX10_find_118 : decode cX10_find 118 = .ok (.iaload, 1) := by decide +kernel
theorem dX10_find_119 : decode cX10_find 119 = .ok (.iload_n 2, 1) := by decide +kernel
theorem dX10_find_120 : decode cX10_find 120 = .ok (.iadd, 1) := by decide +kernel
theorem dX10_find_121 : decode cX10_find 121 = .ok (.iastore, 1) := by decide +kernel
theorem dX10_find_122 : decode cX10_find 122 = .ok (.aload_n 0, 1) := by decide +kernel
theorem dX10_find_123 : decode cX10_find 123 = .ok (.getfield 68, 3) := by decide +kernel
theorem dX10_find_126 : decode cX10_find 126 = .ok (.iload_n 3, 1) := by decide +kernel
theorem dX10_find_127 : decode cX10_find 127 = .ok (.iaload, 1) := by decide +kernel
theorem dX10_find_128 : decode cX10_find 128 = .ok (.ireturn, 1) := by decide +kernel
theorem dX10_back_0 : decode cX10_back 0 = .ok (.aload_n 0, 1) := by decide +kernel
theorem dX10_back_1 : decode cX10_back 1 = .ok (.iload_n 1, 1) := by decide +kernel
theorem dX10_back_2 : decode cX10_back 2 = .ok (.invokevirtual 199, 3) := by decide +kernel
theorem dX10_back_5 : decode cX10_back 5 = .ok (.ifCond .ne 9, 3) := by decide +kernel
theorem dX10_back_8 : decode cX10_back 8 = .ok (.aload_n 0, 1) := by decide +kernel
theorem dX10_back_9 : decode cX10_back 9 = .ok (.iconst (-1), 1) := by decide +kernel
theorem dX10_back_10 : decode cX10_back 10 = .ok (.invokevirtual 175, 3) := by decide +kernel
theorem dX10_back_13 : decode cX10_back 13 = .ok (.ireturn, 1) := by decide +kernel
theorem dX10_back_14 : decode cX10_back 14 = .ok (.aload_n 0, 1) := by decide +kernel
theorem dX10_back_15 : decode cX10_back 15 = .ok (.getfield 65, 3) := by decide +kernel
theorem dX10_back_18 : decode cX10_back 18 = .ok (.iload_n 1, 1) := by decide +kernel
theorem dX10_back_19 : decode cX10_back 19 = .ok (.iaload, 1) := by decide +kernel
theorem dX10_back_20 : decode cX10_back 20 = .ok (.ifCond .lt 10, 3) := by decide +kernel
theorem dX10_back_23 : decode cX10_back 23 = .ok (.aload_n 0, 1) := by decide +kernel
theorem dX10_back_24 : decode cX10_back 24 = .ok (.bipush (-3), 2) := by decide +kernel
theorem dX10_back_26 : decode cX10_back 26 = .ok (.invokevirtual 175, 3) := by decide +kernel
theorem dX10_back_29 : decode cX10_back 29 = .ok (.ireturn, 1) := by decide +kernel
theorem dX10_back_30 : decode cX10_back 30 = .ok (.aload_n 0, 1) := by decide +kernel
theorem dX10_back_31 : decode cX10_back 31 = .ok (.getfield 65, 3) := by decide +kernel
theorem dX10_back_34 : decode cX10_back 34 = .ok (.iload_n 1, 1) := by decide +kernel
theorem dX10_back_35 : decode cX10_back 35 = .ok (.aload_n 0, 1) := by decide +kernel
theorem dX10_back_36 : decode cX10_back 36 = .ok (.getfield 179, 3) := by decide +kernel
theorem dX10_back_39 : decode cX10_back 39 = .ok (.iastore, 1) := by decide +kernel
theorem dX10_back_40 : decode cX10_back 40 = .ok (.iconst 1, 1) := by decide +kernel
theorem dX10_back_41 : decode cX10_back 41 = .ok (.ireturn, 1) := by decide +kernel
theorem dX10_scoreOf_0 : decode cX10_scoreOf 0 = .ok (.iconst 0, 1) := by decide +kernel
theorem dX10_scoreOf_1 : decode cX10_scoreOf 1 = .ok (.istore_n 3, 1) := by decide +kernel
theorem dX10_scoreOf_2 : decode cX10_scoreOf 2 = .ok (.iload_n 3, 1) := by decide +kernel
theorem dX10_scoreOf_3 : decode cX10_scoreOf 3 = .ok (.iconst 5, 1) := by decide +kernel
theorem dX10_scoreOf_4 : decode cX10_scoreOf 4 = .ok (.if_icmp .ge 16, 3) := by decide +kernel
theorem dX10_scoreOf_7 : decode cX10_scoreOf 7 = .ok (.aload_n 0, 1) := by decide +kernel
theorem dX10_scoreOf_8 : decode cX10_scoreOf 8 = .ok (.getfield 74, 3) := by decide +kernel
theorem dX10_scoreOf_11 : decode cX10_scoreOf 11 = .ok (.iload_n 3, 1) := by decide +kernel
theorem dX10_scoreOf_12 : decode cX10_scoreOf 12 = .ok (.iconst 0, 1) := by decide +kernel
theorem dX10_scoreOf_13 : decode cX10_scoreOf 13 = .ok (.iastore, 1) := by decide +kernel
theorem dX10_scoreOf_14 : decode cX10_scoreOf 14 = .ok (.iinc 3 1, 3) := by decide +kernel
theorem dX10_scoreOf_17 : decode cX10_scoreOf 17 = .ok (.goto (-15), 3) := by decide +kernel
theorem dX10_scoreOf_20 : decode cX10_scoreOf 20 = .ok (.iconst 0, 1) := by decide +kernel
theorem dX10_scoreOf_21 : decode cX10_scoreOf 21 = .ok (.istore_n 3, 1) := by decide +kernel
theorem dX10_scoreOf_22 : decode cX10_scoreOf 22 = .ok (.iload_n 3, 1) := by decide +kernel
theorem dX10_scoreOf_23 : decode cX10_scoreOf 23 = .ok (.aload_n 0, 1) := by decide +kernel
theorem dX10_scoreOf_24 : decode cX10_scoreOf 24 = .ok (.getfield 182, 3) := by decide +kernel
theorem dX10_scoreOf_27 : decode cX10_scoreOf 27 = .ok (.if_icmp .ge 51, 3) := by decide +kernel
theorem dX10_scoreOf_30 : decode cX10_scoreOf 30 = .ok (.aload_n 0, 1) := by decide +kernel
theorem dX10_scoreOf_31 : decode cX10_scoreOf 31 = .ok (.iload_n 3, 1) := by decide +kernel
theorem dX10_scoreOf_32 : decode cX10_scoreOf 32 = .ok (.iload_n 2, 1) := by decide +kernel
theorem dX10_scoreOf_33 : decode cX10_scoreOf 33 = .ok (.invokevirtual 192, 3) := by decide +kernel
theorem dX10_scoreOf_36 : decode cX10_scoreOf 36 = .ok (.istore 4, 2) := by decide +kernel
theorem dX10_scoreOf_38 : decode cX10_scoreOf 38 = .ok (.aload_n 0, 1) := by decide +kernel
theorem dX10_scoreOf_39 : decode cX10_scoreOf 39 = .ok (.getfield 74, 3) := by decide +kernel
theorem dX10_scoreOf_42 : decode cX10_scoreOf 42 = .ok (.aload_n 0, 1) := by decide +kernel
theorem dX10_scoreOf_43 : decode cX10_scoreOf 43 = .ok (.getfield 7, 3) := by decide +kernel
theorem dX10_scoreOf_46 : decode cX10_scoreOf 46 = .ok (.iload 4, 2) := by decide +kernel
theorem dX10_scoreOf_48 : decode cX10_scoreOf 48 = .ok (.iaload, 1) := by decide +kernel
theorem dX10_scoreOf_49 : decode cX10_scoreOf 49 = .ok (.dup2, 1) := by decide +kernel
theorem dX10_scoreOf_50 : decode cX10_scoreOf 50 = .ok (.iaload, 1) := by decide +kernel
theorem dX10_scoreOf_51 : decode cX10_scoreOf 51 = .ok (.aload_n 0, 1) := by decide +kernel
theorem dX10_scoreOf_52 : decode cX10_scoreOf 52 = .ok (.getfield 68, 3) := by decide +kernel
theorem dX10_scoreOf_55 : decode cX10_scoreOf 55 = .ok (.bipush 40, 2) := by decide +kernel
theorem dX10_scoreOf_57 : decode cX10_scoreOf 57 = .ok (.iload_n 1, 1) := by decide +kernel
theorem dX10_scoreOf_58 : decode cX10_scoreOf 58 = .ok (.imul, 1) := by decide +kernel
theorem dX10_scoreOf_59 : decode cX10_scoreOf 59 = .ok (.iload_n 3, 1) := by decide +kernel
theorem dX10_scoreOf_60 : decode cX10_scoreOf 60 = .ok (.iadd, 1) := by decide +kernel
theorem dX10_scoreOf_61 : decode cX10_scoreOf 61 = .ok (.iaload, 1) := by decide +kernel
theorem dX10_scoreOf_62 : decode cX10_scoreOf 62 = .ok (.aload_n 0, 1) := by decide +kernel
theorem dX10_scoreOf_63 : decode cX10_scoreOf 63 = .ok (.getfield 13, 3) := by decide +kernel
theorem dX10_scoreOf_66 : decode cX10_scoreOf 66 = .ok (.iload 4, 2) := by decide +kernel
theorem dX10_scoreOf_68 : decode cX10_scoreOf 68 = .ok (.iaload, 1) := by decide +kernel
theorem dX10_scoreOf_69 : decode cX10_scoreOf 69 = .ok (.imul, 1) := by decide +kernel
theorem dX10_scoreOf_70 : decode cX10_scoreOf 70 = .ok (.iadd, 1) := by decide +kernel
theorem dX10_scoreOf_71 : decode cX10_scoreOf 71 = .ok (.iastore, 1) := by decide +kernel
theorem dX10_scoreOf_72 : decode cX10_scoreOf 72 = .ok (.iinc 3 1, 3) := by decide +kernel
theorem dX10_scoreOf_75 : decode cX10_scoreOf 75 = .ok (.goto (-53), 3) := by decide +kernel
theorem dX10_scoreOf_78 : decode cX10_scoreOf 78 = .ok (.iconst 0, 1) := by decide +kernel
theorem dX10_scoreOf_79 : decode cX10_scoreOf 79 = .ok (.istore_n 3, 1) := by decide +kernel
theorem dX10_scoreOf_80 : decode cX10_scoreOf 80 = .ok (.iconst 0, 1) := by decide +kernel
theorem dX10_scoreOf_81 : decode cX10_scoreOf 81 = .ok (.istore 4, 2) := by decide +kernel
theorem dX10_scoreOf_83 : decode cX10_scoreOf 83 = .ok (.iload 4, 2) := by decide +kernel
theorem dX10_scoreOf_85 : decode cX10_scoreOf 85 = .ok (.iconst 5, 1) := by decide +kernel
theorem dX10_scoreOf_86 : decode cX10_scoreOf 86 = .ok (.if_icmp .ge 46, 3) := by decide +kernel
theorem dX10_scoreOf_89 : decode cX10_scoreOf 89 = .ok (.iload_n 3, 1) := by decide +kernel
theorem dX10_scoreOf_90 : decode cX10_scoreOf 90 = .ok (.aload_n 0, 1) := by decide +kernel
theorem dX10_scoreOf_91 : decode cX10_scoreOf 91 = .ok (.getfield 74, 3) := by decide +kernel
theorem dX10_scoreOf_94 : decode cX10_scoreOf 94 = .ok (.iload 4, 2) := by decide +kernel
theorem dX10_scoreOf_96 : decode cX10_scoreOf 96 = .ok (.iaload, 1) := by decide +kernel
theorem dX10_scoreOf_97 : decode cX10_scoreOf 97 = .ok (.aload_n 0, 1) := by decide +kernel
theorem dX10_scoreOf_98 : decode cX10_scoreOf 98 = .ok (.getfield 25, 3) := by decide +kernel
theorem dX10_scoreOf_101 : decode cX10_scoreOf 101 = .ok (.iload 4, 2) := by decide +kernel
theorem dX10_scoreOf_103 : decode cX10_scoreOf 103 = .ok (.iaload, 1) := by decide +kernel
theorem dX10_scoreOf_104 : decode cX10_scoreOf 104 = .ok (.if_icmp .ge 13, 3) := by decide +kernel
theorem dX10_scoreOf_107 : decode cX10_scoreOf 107 = .ok (.aload_n 0, 1) := by decide +kernel
theorem dX10_scoreOf_108 : decode cX10_scoreOf 108 = .ok (.getfield 74, 3) := by decide +kernel
theorem dX10_scoreOf_111 : decode cX10_scoreOf 111 = .ok (.iload 4, 2) := by decide +kernel
theorem dX10_scoreOf_113 : decode cX10_scoreOf 113 = .ok (.iaload, 1) := by decide +kernel
theorem dX10_scoreOf_114 : decode cX10_scoreOf 114 = .ok (.goto 10, 3) := by decide +kernel
theorem dX10_scoreOf_117 : decode cX10_scoreOf 117 = .ok (.aload_n 0, 1) := by decide +kernel
theorem dX10_scoreOf_118 : decode cX10_scoreOf 118 = .ok (.getfield 25, 3) := by decide +kernel
theorem dX10_scoreOf_121 : decode cX10_scoreOf 121 = .ok (.iload 4, 2) := by decide +kernel
theorem dX10_scoreOf_123 : decode cX10_scoreOf 123 = .ok (.iaload, 1) := by decide +kernel
theorem dX10_scoreOf_124 : decode cX10_scoreOf 124 = .ok (.iadd, 1) := by decide +kernel
theorem dX10_scoreOf_125 : decode cX10_scoreOf 125 = .ok (.istore_n 3, 1) := by decide +kernel
theorem dX10_scoreOf_126 : decode cX10_scoreOf 126 = .ok (.iinc 4 1, 3) := by decide +kernel
theorem dX10_scoreOf_129 : decode cX10_scoreOf 129 = .ok (.goto (-46), 3) := by decide +kernel
theorem dX10_scoreOf_132 : decode cX10_scoreOf 132 = .ok (.iload_n 3, 1) := by decide +kernel
theorem dX10_scoreOf_133 : decode cX10_scoreOf 133 = .ok (.ireturn, 1) := by decide +kernel
theorem dX10_score_0 : decode cX10_score 0 = .ok (.aload_n 0, 1) := by decide +kernel
theorem dX10_score_1 : decode cX10_score 1 = .ok (.iload_n 1, 1) := by decide +kernel
theorem dX10_score_2 : decode cX10_score 2 = .ok (.invokevirtual 199, 3) := by decide +kernel
theorem dX10_score_5 : decode cX10_score 5 = .ok (.ifCond .ne 9, 3) := by decide +kernel
theorem dX10_score_8 : decode cX10_score 8 = .ok (.aload_n 0, 1) := by decide +kernel
theorem dX10_score_9 : decode cX10_score 9 = .ok (.iconst (-1), 1) := by decide +kernel
theorem dX10_score_10 : decode cX10_score 10 = .ok (.invokevirtual 175, 3) := by decide +kernel
theorem dX10_score_13 : decode cX10_score 13 = .ok (.ireturn, 1) := by decide +kernel
theorem dX10_score_14 : decode cX10_score 14 = .ok (.iload_n 2, 1) := by decide +kernel
theorem dX10_score_15 : decode cX10_score 15 = .ok (.invokestatic 189, 3) := by decide +kernel
theorem dX10_score_18 : decode cX10_score 18 = .ok (.ifCond .ge 14, 3) := by decide +kernel
theorem dX10_score_21 : decode cX10_score 21 = .ok (.aload_n 0, 1) := by decide +kernel
theorem dX10_score_22 : decode cX10_score 22 = .ok (.iload_n 2, 1) := by decide +kernel
theorem dX10_score_23 : decode cX10_score 23 = .ok (.invokestatic 189, 3) := by decide +kernel
theorem dX10_score_26 : decode cX10_score 26 = .ok (.invokevirtual 175, 3) := by decide +kernel
theorem dX10_score_29 : decode cX10_score 29 = .ok (.goto 9, 3) := by decide +kernel
theorem dX10_score_32 : decode cX10_score 32 = .ok (.aload_n 0, 1) := by decide +kernel
theorem dX10_score_33 : decode cX10_score 33 = .ok (.iload_n 1, 1) := by decide +kernel
theorem dX10_score_34 : decode cX10_score 34 = .ok (.iload_n 2, 1) := by decide +kernel
theorem dX10_score_35 : decode cX10_score 35 = .ok (.invokevirtual 202, 3) := by decide +kernel
theorem dX10_score_38 : decode cX10_score 38 = .ok (.ireturn, 1) := by decide +kernel
theorem dX10_table_0 : decode cX10_table 0 = .ok (.iload_n 1, 1) := by decide +kernel
theorem dX10_table_1 : decode cX10_table 1 = .ok (.aload_n 0, 1) := by decide +kernel
theorem dX10_table_2 : decode cX10_table 2 = .ok (.getfield 179, 3) := by decide +kernel
theorem dX10_table_5 : decode cX10_table 5 = .ok (.if_icmp .lt 25, 3) := by decide +kernel
theorem dX10_table_8 : decode cX10_table 8 = .ok (.iload_n 2, 1) := by decide +kernel
theorem dX10_table_9 : decode cX10_table 9 = .ok (.ifCond .lt 21, 3) := by decide +kernel
theorem dX10_table_12 : decode cX10_table 12 = .ok (.iload_n 3, 1) := by decide +kernel
theorem dX10_table_13 : decode cX10_table 13 = .ok (.iload_n 2, 1) := by decide +kernel
theorem dX10_table_14 : decode cX10_table 14 = .ok (.if_icmp .lt 16, 3) := by decide +kernel
theorem dX10_table_17 : decode cX10_table 17 = .ok (.iload 4, 2) := by decide +kernel
theorem dX10_table_19 : decode cX10_table 19 = .ok (.iload_n 3, 1) := by decide +kernel
theorem dX10_table_20 : decode cX10_table 20 = .ok (.if_icmp .lt 10, 3) := by decide +kernel
theorem dX10_table_23 : decode cX10_table 23 = .ok (.iload 5, 2) := by decide +kernel
theorem dX10_table_25 : decode cX10_table 25 = .ok (.iload 4, 2) := by decide +kernel
theorem dX10_table_27 : decode cX10_table 27 = .ok (.if_icmp .ge 10, 3) := by decide +kernel
theorem dX10_table_30 : decode cX10_table 30 = .ok (.aload_n 0, 1) := by decide +kernel
theorem dX10_table_31 : decode cX10_table 31 = .ok (.bipush (-4), 2) := by decide +kernel
theorem dX10_table_33 : decode cX10_table 33 = .ok (.invokevirtual 175, 3) := by decide +kernel
theorem dX10_table_36 : decode cX10_table 36 = .ok (.ireturn, 1) := by decide +kernel
theorem dX10_table_37 : decode cX10_table 37 = .ok (.iload_n 1, 1) := by decide +kernel
theorem dX10_table_38 : decode cX10_table 38 = .ok (.sipush 1500, 3) := by decide +kernel
theorem dX10_table_41 : decode cX10_table 41 = .ok (.if_icmp .gt 20, 3) := by decide +kernel
theorem dX10_table_44 : decode cX10_table 44 = .ok (.iload 5, 2) := by decide +kernel
theorem dX10_table_46 : decode cX10_table 46 = .ok (.sipush 999, 3) := by decide +kernel
theorem dX10_table_49 : decode cX10_table 49 = .ok (.if_icmp .gt 12, 3) := by decide +kernel
theorem dX10_table_52 : decode cX10_table 52 = .ok (.aload_n 0, 1) := by decide +kernel
theorem dX10_table_53 : decode cX10_table 53 = .ok (.getfield 205, 3) := by decide +kernel
theorem dX10_table_56 : decode cX10_table 56 = .ok (.bipush 10, 2) := by decide +kernel
theorem dX10_table_58 : decode cX10_table 58 = .ok (.if_icmp .ne 10, 3) := by decide +kernel
theorem dX10_table_61 : decode cX10_table 61 = .ok (.aload_n 0, 1) := by decide +kernel
theorem dX10_table_62 : decode cX10_table 62 = .ok (.bipush (-6), 2) := by decide +kernel
theorem dX10_table_64 : decode cX10_table 64 = .ok (.invokevirtual 175, 3) := by decide +kernel
theorem dX10_table_67 : decode cX10_table 67 = .ok (.ireturn, 1) := by decide +kernel
theorem dX10_table_68 : decode cX10_table 68 = .ok (.aload_n 0, 1) := by decide +kernel
theorem dX10_table_69 : decode cX10_table 69 = .ok (.getfield 77, 3) := by decide +kernel
theorem dX10_table_72 : decode cX10_table 72 = .ok (.aload_n 0, 1) := by decide +kernel
theorem dX10_table_73 : decode cX10_table 73 = .ok (.getfield 205, 3) := by decide +kernel
theorem dX10_table_76 : decode cX10_table 76 = .ok (.iload_n 1, 1) := by decide +kernel
theorem dX10_table_77 : decode cX10_table 77 = .ok (.iastore, 1) := by decide +kernel
theorem dX10_table_78 : decode cX10_table 78 = .ok (.aload_n 0, 1) := by decide +kernel
theorem dX10_table_79 : decode cX10_table 79 = .ok (.getfield 80, 3) := by decide +kernel
theorem dX10_table_82 : decode cX10_table 82 = .ok (.iconst 4, 1) := by decide +kernel
theorem dX10_table_83 : decode cX10_table 83 = .ok (.aload_n 0, 1) := by decide +kernel
theorem dX10_table_84 : decode cX10_table 84 = .ok (.getfield 205, 3) := by decide +kernel
theorem dX10_table_87 : decode cX10_table 87 = .ok (.imul, 1) := by decide +kernel
theorem dX10_table_88 : decode cX10_table 88 = .ok (.iload_n 2, 1) := by decide +kernel
theorem dX10_table_89 : decode cX10_table 89 = .ok (.iastore, 1) := by decide +kernel
theorem dX10_table_90 : decode cX10_table 90 = .ok (.aload_n 0, 1) := by decide +kernel
theorem dX10_table_91 : decode cX10_table 91 = .ok (.getfield 80, 3) := by decide +kernel
theorem dX10_table_94 : decode cX10_table 94 = .ok (.iconst 4, 1) := by decide +kernel
theorem dX10_table_95 : decode cX10_table 95 = .ok (.aload_n 0, 1) := by decide +kernel
theorem dX10_table_96 : decode cX10_table 96 = .ok (.getfield 205, 3) := by decide +kernel
theorem dX10_table_99 : decode cX10_table 99 = .ok (.imul, 1) := by decide +kernel
theorem dX10_table_100 : decode cX10_table 100 = .ok (.iconst 1, 1) := by decide +kernel
theorem dX10_table_101 : decode cX10_table 101 = .ok (.iadd, 1) := by decide +kernel
theorem dX10_table_102 : decode cX10_table 102 = .ok (.iload_n 3, 1) := by decide +kernel
theorem dX10_table_103 : decode cX10_table 103 = .ok (.iastore, 1) := by decide +kernel
theorem dX10_table_104 : decode cX10_table 104 = .ok (.aload_n 0, 1) := by decide +kernel
theorem dX10_table_105 : decode cX10_table 105 = .ok (.getfield 80, 3) := by decide +kernel
theorem dX10_table_108 : decode cX10_table 108 = .ok (.iconst 4, 1) := by decide +kernel
theorem dX10_table_109 : decode cX10_table 109 = .ok (.aload_n 0, 1) := by decide +kernel
theorem dX10_table_110 : decode cX10_table 110 = .ok (.getfield 205, 3) := by decide +kernel
theorem dX10_table_113 : decode cX10_table 113 = .ok (.imul, 1) := by decide +kernel
theorem dX10_table_114 : decode cX10_table 114 = .ok (.iconst 2, 1) := by decide +kernel
theorem dX10_table_115 : decode cX10_table 115 = .ok (.iadd, 1) := by decide +kernel
theorem dX10_table_116 : decode cX10_table 116 = .ok (.iload 4, 2) := by decide +kernel
theorem dX10_table_118 : decode cX10_table 118 = .ok (.iastore, 1) := by decide +kernel
theorem dX10_table_119 : decode cX10_table 119 = .ok (.aload_n 0, 1) := by decide +kernel
theorem dX10_table_120 : decode cX10_table 120 = .ok (.getfield 80, 3) := by decide +kernel
theorem dX10_table_123 : decode cX10_table 123 = .ok (.iconst 4, 1) := by decide +kernel
theorem dX10_table_124 : decode cX10_table 124 = .ok (.aload_n 0, 1) := by decide +kernel
theorem dX10_table_125 : decode cX10_table 125 = .ok (.getfield 205, 3) := by decide +kernel
theorem dX10_table_128 : decode cX10_table 128 = .ok (.imul, 1) := by decide +kernel
theorem dX10_table_129 : decode cX10_table 129 = .ok (.iconst 3, 1) := by decide +kernel
theorem dX10_table_130 : decode cX10_table 130 = .ok (.iadd, 1) := by decide +kernel
theorem dX10_table_131 : decode cX10_table 131 = .ok (.iload 5, 2) := by decide +kernel
theorem dX10_table_133 : decode cX10_table 133 = .ok (.iastore, 1) := by decide +kernel
theorem dX10_table_134 : decode cX10_table 134 = .ok (.aload_n 0, 1) := by decide +kernel
theorem dX10_table_135 : decode cX10_table 135 = .ok (.dup, 1) := by decide +kernel
theorem dX10_table_136 : decode cX10_table 136 = .ok (.getfield 205, 3) := by decide +kernel
theorem dX10_table_139 : decode cX10_table 139 = .ok (.iconst 1, 1) := by decide +kernel
theorem dX10_table_140 : decode cX10_table 140 = .ok (.iadd, 1) := by decide +kernel
theorem dX10_table_141 : decode cX10_table 141 = .ok (.putfield 205, 3) := by decide +kernel
theorem dX10_table_144 : decode cX10_table 144 = .ok (.aload_n 0, 1) := by decide +kernel
theorem dX10_table_145 : decode cX10_table 145 = .ok (.getfield 205, 3) := by decide +kernel
theorem dX10_table_148 : decode cX10_table 148 = .ok (.iconst 1, 1) := by decide +kernel
theorem dX10_table_149 : decode cX10_table 149 = .ok (.isub, 1) := by decide +kernel
theorem dX10_table_150 : decode cX10_table 150 = .ok (.ireturn, 1) := by decide +kernel
theorem dX10_starBy_0 : decode cX10_starBy 0 = .ok (.iconst (-1), 1) := by decide +kernel
theorem dX10_starBy_1 : decode cX10_starBy 1 = .ok (.istore 6, 2) := by decide +kernel
theorem dX10_starBy_3 : decode cX10_starBy 3 = .ok (.iconst 0, 1) := by decide +kernel
theorem dX10_starBy_4 : decode cX10_starBy 4 = .ok (.istore 7, 2) := by decide +kernel
theorem dX10_starBy_6 : decode cX10_starBy 6 = .ok (.iload 7, 2) := by decide +kernel
theorem dX10_starBy_8 : decode cX10_starBy 8 = .ok (.aload_n 0, 1) := by decide +kernel
theorem dX10_starBy_9 : decode cX10_starBy 9 = .ok (.getfield 205, 3) := by decide +kernel
theorem dX10_starBy_12 : decode cX10_starBy 12 = .ok (.if_icmp .ge 52, 3) := by decide +kernel
theorem dX10_starBy_15 : decode cX10_starBy 15 = .ok (.aload_n 0, 1) := by decide +kernel
theorem dX10_starBy_16 : decode cX10_starBy 16 = .ok (.getfield 77, 3) := by decide +kernel
theorem dX10_starBy_19 : decode cX10_starBy 19 = .ok (.iload 7, 2) := by decide +kernel
theorem dX10_starBy_21 : decode cX10_starBy 21 = .ok (.iaload, 1) := by decide +kernel
theorem dX10_starBy_22 : decode cX10_starBy 22 = .ok (.iload 5, 2) := by decide +kernel
theorem dX10_starBy_24 : decode cX10_starBy 24 = .ok (.if_icmp .gt 30, 3) := by decide +kernel
theorem dX10_starBy_27 : decode cX10_starBy 27 = .ok (.iload 6, 2) := by decide +kernel
theorem dX10_starBy_29 : decode cX10_starBy 29 = .ok (.ifCond .lt 20, 3) := by decide +kernel
theorem dX10_starBy_32 : decode cX10_starBy 32 = .ok (.aload_n 0, 1) := by decide +kernel
theorem dX10_starBy_33 : decode cX10_starBy 33 = .ok (.getfield 77, 3) := by decide +kernel
theorem dX10_starBy_36 : decode cX10_starBy 36 = .ok (.iload 7, 2) := by decide +kernel
theorem dX10_starBy_38 : decode cX10_starBy 38 = .ok (.iaload, 1) := by decide +kernel
theorem dX10_starBy_39 : decode cX10_starBy 39 = .ok (.aload_n 0, 1) := by decide +kernel
theorem dX10_starBy_40 : decode cX10_starBy 40 = .ok (.getfield 77, 3) := by decide +kernel
theorem dX10_starBy_43 : decode cX10_starBy 43 = .ok (.iload 6, 2) := by decide +kernel
theorem dX10_starBy_45 : decode cX10_starBy 45 = .ok (.iaload, 1) := by decide +kernel
theorem dX10_starBy_46 : decode cX10_starBy 46 = .ok (.if_icmp .lt 8, 3) := by decide +kernel
theorem dX10_starBy_49 : decode cX10_starBy 49 = .ok (.iload 7, 2) := by decide +kernel
theorem dX10_starBy_51 : decode cX10_starBy 51 = .ok (.goto 5, 3) := by decide +kernel
theorem dX10_starBy_54 : decode cX10_starBy 54 = .ok (.iload 6, 2) := by decide +kernel
theorem dX10_starBy_56 : decode cX10_starBy 56 = .ok (.istore 6, 2) := by decide +kernel
theorem dX10_starBy_58 : decode cX10_starBy 58 = .ok (.iinc 7 1, 3) := by decide +kernel
theorem dX10_starBy_61 : decode cX10_starBy 61 = .ok (.goto (-55), 3) := by decide +kernel
theorem dX10_starBy_64 : decode cX10_starBy 64 = .ok (.iload 6, 2) := by decide +kernel
theorem dX10_starBy_66 : decode cX10_starBy 66 = .ok (.ifCond .ge 5, 3) := by decide +kernel
theorem dX10_starBy_69 : decode cX10_starBy 69 = .ok (.iconst 0, 1) := by decide +kernel
theorem dX10_starBy_70 : decode cX10_starBy 70 = .ok (.ireturn, 1) := by decide +kernel
theorem dX10_starBy_71 : decode cX10_starBy 71 = .ok (.iconst 1, 1) := by decide +kernel
theorem dX10_starBy_72 : decode cX10_starBy 72 = .ok (.istore 7, 2) := by decide +kernel
theorem dX10_starBy_74 : decode cX10_starBy 74 = .ok (.iconst 3, 1) := by decide +kernel
theorem dX10_starBy_75 : decode cX10_starBy 75 = .ok (.istore 8, 2) := by decide +kernel
theorem dX10_starBy_77 : decode cX10_starBy 77 = .ok (.iload 8, 2) := by decide +kernel
theorem dX10_starBy_79 : decode cX10_starBy 79 = .ok (.ifCond .lt 40, 3) := by decide +kernel
theorem dX10_starBy_82 : decode cX10_starBy 82 = .ok (.lload_n 1, 1) := by decide +kernel
theorem dX10_starBy_83 : decode cX10_starBy 83 = .ok (.lload_n 3, 1) := by decide +kernel
theorem dX10_starBy_84 : decode cX10_starBy 84 = .ok (.aload_n 0, 1) := by decide +kernel
theorem dX10_starBy_85 : decode cX10_starBy 85 = .ok (.getfield 80, 3) := by decide +kernel
theorem dX10_starBy_88 : decode cX10_starBy 88 = .ok (.iconst 4, 1) := by decide +kernel
theorem dX10_starBy_89 : decode cX10_starBy 89 = .ok (.iload 6, 2) := by decide +kernel
theorem dX10_starBy_91 : decode cX10_starBy 91 = .ok (.imul, 1) := by decide +kernel
theorem dX10_starBy_92 : decode cX10_starBy 92 = .ok (.iload 8, 2) := by decide +kernel
theorem dX10_starBy_94 : decode cX10_starBy 94 = .ok (.iadd, 1) := by decide +kernel
theorem dX10_starBy_95 : decode cX10_starBy 95 = .ok (.iaload, 1) := by decide +kernel
theorem dX10_starBy_96 : decode cX10_starBy 96 = .ok (.i2l, 1) := by decide +kernel
theorem dX10_starBy_97 : decode cX10_starBy 97 = .ok (.lmul, 1) := by decide +kernel
theorem dX10_starBy_98 : decode cX10_starBy 98 = .ok (.lcmp, 1) := by decide +kernel
theorem dX10_starBy_99 : decode cX10_starBy 99 = .ok (.ifCond .ge 10, 3) := by decide +kernel
theorem dX10_starBy_102 : decode cX10_starBy 102 = .ok (.iconst 5, 1) := by decide +kernel
theorem dX10_starBy_103 : decode cX10_starBy 103 = .ok (.iload 8, 2) := by decide +kernel
theorem dX10_starBy_105 : decode cX10_starBy 105 = .ok (.isub, 1) := by decide +kernel
theorem dX10_starBy_106 : decode cX10_starBy 106 = .ok (.goto 5, 3) := by decide +kernel
theorem dX10_starBy_109 : decode cX10_starBy 109 = .ok (.iload 7, 2) := by decide +kernel
theorem dX10_starBy_111 : decode cX10_starBy 111 = .ok (.istore 7, 2) := by decide +kernel
theorem dX10_starBy_113 : decode cX10_starBy 113 = .ok (.iinc 8 (-1), 3) := by decide +kernel
theorem dX10_starBy_116 : decode cX10_starBy 116 = .ok (.goto (-39), 3) := by decide +kernel
theorem dX10_starBy_119 : decode cX10_starBy 119 = .ok (.iload 7, 2) := by decide +kernel
theorem dX10_starBy_121 : decode cX10_starBy 121 = .ok (.ireturn, 1) := by decide +kernel
theorem dX10_countsBy_0 : decode cX10_countsBy 0 = .ok (.aload_n 0, 1) := by decide +kernel
theorem dX10_countsBy_1 : decode cX10_countsBy 1 = .ok (.getfield 62, 3) := by decide +kernel
theorem dX10_countsBy_4 : decode cX10_countsBy 4 = .ok (.iload_n 1, 1) := by decide +kernel
theorem dX10_countsBy_5 : decode cX10_countsBy 5 = .ok (.iaload, 1) := by decide +kernel
theorem dX10_countsBy_6 : decode cX10_countsBy 6 = .ok (.iload_n 2, 1) := by decide +kernel
theorem dX10_countsBy_7 : decode cX10_countsBy 7 = .ok (.if_icmp .gt 26, 3) := by decide +kernel
theorem dX10_countsBy_10 : decode cX10_countsBy 10 = .ok (.aload_n 0, 1) := by decide +kernel
theorem dX10_countsBy_11 : decode cX10_countsBy 11 = .ok (.getfield 65, 3) := by decide +kernel
theorem dX10_countsBy_14 : decode cX10_countsBy 14 = .ok (.iload_n 1, 1) := by decide +kernel
theorem dX10_countsBy_15 : decode cX10_countsBy 15 = .ok (.iaload, 1) := by decide +kernel
theorem dX10_countsBy_16 : decode cX10_countsBy 16 = .ok (.ifCond .lt 13, 3) := by decide +kernel
theorem dX10_countsBy_19 : decode cX10_countsBy 19 = .ok (.aload_n 0, 1) := by decide +kernel
theorem dX10_countsBy_20 : decode cX10_countsBy 20 = .ok (.getfield 65, 3) := by decide +kernel
theorem dX10_countsBy_23 : decode cX10_countsBy 23 = .ok (.iload_n 1, 1) := by decide +kernel
theorem dX10_countsBy_24 : decode cX10_countsBy 24 = .ok (.iaload, 1) := by decide +kernel
theorem dX10_countsBy_25 : decode cX10_countsBy 25 = .ok (.iload_n 2, 1) := by decide +kernel
theorem dX10_countsBy_26 : decode cX10_countsBy 26 = .ok (.if_icmp .le 7, 3) := by decide +kernel
theorem dX10_countsBy_29 : decode cX10_countsBy 29 = .ok (.iconst 1, 1) := by decide +kernel
theorem dX10_countsBy_30 : decode cX10_countsBy 30 = .ok (.goto 4, 3) := by decide +kernel
theorem dX10_countsBy_33 : decode cX10_countsBy 33 = .ok (.iconst 0, 1) := by decide +kernel
theorem dX10_countsBy_34 : decode cX10_countsBy 34 = .ok (.ireturn, 1) := by decide +kernel
theorem dX10_lookOn_0 : decode cX10_lookOn 0 = .ok (.iconst (-1), 1) := by decide +kernel
theorem dX10_lookOn_1 : decode cX10_lookOn 1 = .ok (.istore 4, 2) := by decide +kernel
theorem dX10_lookOn_3 : decode cX10_lookOn 3 = .ok (.iconst 0, 1) := by decide +kernel
theorem dX10_lookOn_4 : decode cX10_lookOn 4 = .ok (.istore 5, 2) := by decide +kernel
theorem dX10_lookOn_6 : decode cX10_lookOn 6 = .ok (.iload 5, 2) := by decide +kernel
theorem dX10_lookOn_8 : decode cX10_lookOn 8 = .ok (.aload_n 0, 1) := by decide +kernel
theorem dX10_lookOn_9 : decode cX10_lookOn 9 = .ok (.getfield 172, 3) := by decide +kernel
theorem dX10_lookOn_12 : decode cX10_lookOn 12 = .ok (.if_icmp .ge 84, 3) := by decide +kernel
theorem dX10_lookOn_15 : decode cX10_lookOn 15 = .ok (.aload_n 0, 1) := by decide +kernel
theorem dX10_lookOn_16 : decode cX10_lookOn 16 = .ok (.getfield 53, 3) := by decide +kernel
theorem dX10_lookOn_19 : decode cX10_lookOn 19 = .ok (.iload 5, 2) := by decide +kernel
theorem dX10_lookOn_21 : decode cX10_lookOn 21 = .ok (.iaload, 1) := by decide +kernel
theorem dX10_lookOn_22 : decode cX10_lookOn 22 = .ok (.iload_n 1, 1) := by decide +kernel
theorem dX10_lookOn_23 : decode cX10_lookOn 23 = .ok (.if_icmp .ne 28, 3) := by decide +kernel
theorem dX10_lookOn_26 : decode cX10_lookOn 26 = .ok (.aload_n 0, 1) := by decide +kernel
theorem dX10_lookOn_27 : decode cX10_lookOn 27 = .ok (.getfield 59, 3) := by decide +kernel
theorem dX10_lookOn_30 : decode cX10_lookOn 30 = .ok (.iload 5, 2) := by decide +kernel
theorem dX10_lookOn_32 : decode cX10_lookOn 32 = .ok (.iaload, 1) := by decide +kernel
theorem dX10_lookOn_33 : decode cX10_lookOn 33 = .ok (.iload_n 2, 1) := by decide +kernel
theorem dX10_lookOn_34 : decode cX10_lookOn 34 = .ok (.if_icmp .gt 17, 3) := by decide +kernel
theorem dX10_lookOn_37 : decode cX10_lookOn 37 = .ok (.aload_n 0, 1) := by decide +kernel
theorem dX10_lookOn_38 : decode cX10_lookOn 38 = .ok (.iload 5, 2) := by decide +kernel
theorem dX10_lookOn_40 : decode cX10_lookOn 40 = .ok (.iload_n 3, 1) := by decide +kernel
theorem dX10_lookOn_41 : decode cX10_lookOn 41 = .ok (.invokevirtual 208, 3) := by decide +kernel
theorem dX10_lookOn_44 : decode cX10_lookOn 44 = .ok (.ifCond .eq 7, 3) := by decide +kernel
theorem dX10_lookOn_47 : decode cX10_lookOn 47 = .ok (.iconst 1, 1) := by decide +kernel
theorem dX10_lookOn_48 : decode cX10_lookOn 48 = .ok (.goto 4, 3) := by decide +kernel
theorem dX10_lookOn_51 : decode cX10_lookOn 51 = .ok (.iconst 0, 1) := by decide +kernel
theorem dX10_lookOn_52 : decode cX10_lookOn 52 = .ok (.istore 6, 2) := by decide +kernel
theorem dX10_lookOn_54 : decode cX10_lookOn 54 = .ok (.iload 6, 2) := by decide +kernel
theorem dX10_lookOn_56 : decode cX10_lookOn 56 = .ok (.ifCond .eq 30, 3) := by decide +kernel
theorem dX10_lookOn_59 : decode cX10_lookOn 59 = .ok (.iload 4, 2) := by decide +kernel
theorem dX10_lookOn_61 : decode cX10_lookOn 61 = .ok (.ifCond .lt 20, 3) := by decide +kernel
theorem dX10_lookOn_64 : decode cX10_lookOn 64 = .ok (.aload_n 0, 1) := by decide +kernel
theorem dX10_lookOn_65 : decode cX10_lookOn 65 = .ok (.getfield 59, 3) := by decide +kernel
theorem dX10_lookOn_68 : decode cX10_lookOn 68 = .ok (.iload 5, 2) := by decide +kernel
theorem dX10_lookOn_70 : decode cX10_lookOn 70 = .ok (.iaload, 1) := by decide +kernel
theorem dX10_lookOn_71 : decode cX10_lookOn 71 = .ok (.aload_n 0, 1) := by decide +kernel
theorem dX10_lookOn_72 : decode cX10_lookOn 72 = .ok (.getfield 59, 3) := by decide +kernel
theorem dX10_lookOn_75 : decode cX10_lookOn 75 = .ok (.iload 4, 2) := by decide +kernel
theorem dX10_lookOn_77 : decode cX10_lookOn 77 = .ok (.iaload, 1) := by decide +kernel
theorem dX10_lookOn_78 : decode cX10_lookOn 78 = .ok (.if_icmp .lt 8, 3) := by decide +kernel
theorem dX10_lookOn_81 : decode cX10_lookOn 81 = .ok (.iload 5, 2) := by decide +kernel
theorem dX10_lookOn_83 : decode cX10_lookOn 83 = .ok (.goto 5, 3) := by decide +kernel
theorem dX10_lookOn_86 : decode cX10_lookOn 86 = .ok (.iload 4, 2) := by decide +kernel
theorem dX10_lookOn_88 : decode cX10_lookOn 88 = .ok (.istore 4, 2) := by decide +kernel
theorem dX10_lookOn_90 : decode cX10_lookOn 90 = .ok (.iinc 5 1, 3) := by decide +kernel
theorem dX10_lookOn_93 : decode cX10_lookOn 93 = .ok (.goto (-87), 3) := by decide +kernel
theorem dX10_lookOn_96 : decode cX10_lookOn 96 = .ok (.iload 4, 2) := by decide +kernel
theorem dX10_lookOn_98 : decode cX10_lookOn 98 = .ok (.ireturn, 1) := by decide +kernel
theorem dX10_starOf_0 : decode cX10_starOf 0 = .ok (.aload_n 0, 1) := by decide +kernel
theorem dX10_starOf_1 : decode cX10_starOf 1 = .ok (.iload_n 1, 1) := by decide +kernel
theorem dX10_starOf_2 : decode cX10_starOf 2 = .ok (.iload_n 2, 1) := by decide +kernel
theorem dX10_starOf_3 : decode cX10_starOf 3 = .ok (.iload_n 3, 1) := by decide +kernel
theorem dX10_starOf_4 : decode cX10_starOf 4 = .ok (.invokevirtual 212, 3) := by decide +kernel
theorem dX10_starOf_7 : decode cX10_starOf 7 = .ok (.istore 4, 2) := by decide +kernel
theorem dX10_starOf_9 : decode cX10_starOf 9 = .ok (.iload 4, 2) := by decide +kernel
theorem dX10_starOf_11 : decode cX10_starOf 11 = .ok (.ifCond .ge 7, 3) := by decide +kernel
theorem dX10_starOf_14 : decode cX10_starOf 14 = .ok (.iconst 0, 1) := by decide +kernel
theorem dX10_starOf_15 : decode cX10_starOf 15 = .ok (.goto 29, 3) := by decide +kernel
theorem dX10_starOf_18 : decode cX10_starOf 18 = .ok (.aload_n 0, 1) := by decide +kernel
theorem dX10_starOf_19 : decode cX10_starOf 19 = .ok (.aload_n 0, 1) := by decide +kernel
theorem dX10_starOf_20 : decode cX10_starOf 20 = .ok (.iload 4, 2) := by decide +kernel
theorem dX10_starOf_22 : decode cX10_starOf 22 = .ok (.aload_n 0, 1) := by decide +kernel
theorem dX10_starOf_23 : decode cX10_starOf 23 = .ok (.getfield 59, 3) := by decide +kernel
theorem dX10_starOf_26 : decode cX10_starOf 26 = .ok (.iload 4, 2) := by decide +kernel
theorem dX10_starOf_28 : decode cX10_starOf 28 = .ok (.iaload, 1) := by decide +kernel
theorem dX10_starOf_29 : decode cX10_starOf 29 = .ok (.invokevirtual 202, 3) := by decide +kernel
theorem dX10_starOf_32 : decode cX10_starOf 32 = .ok (.i2l, 1) := by decide +kernel
theorem dX10_starOf_33 : decode cX10_starOf 33 = .ok (.lconst 1, 1) := by decide +kernel
theorem dX10_starOf_34 : decode cX10_starOf 34 = .ok (.aload_n 0, 1) := by decide +kernel
theorem dX10_starOf_35 : decode cX10_starOf 35 = .ok (.getfield 59, 3) := by decide +kernel
theorem dX10_starOf_38 : decode cX10_starOf 38 = .ok (.iload 4, 2) := by decide +kernel
theorem dX10_starOf_40 : decode cX10_starOf 40 = .ok (.iaload, 1) := by decide +kernel
theorem dX10_starOf_41 : decode cX10_starOf 41 = .ok (.invokevirtual 216, 3) := by decide +kernel
theorem dX10_starOf_44 : decode cX10_starOf 44 = .ok (.ireturn, 1) := by decide +kernel
theorem dX10_star_0 : decode cX10_star 0 = .ok (.aload_n 0, 1) := by decide +kernel
theorem dX10_star_1 : decode cX10_star 1 = .ok (.iload_n 1, 1) := by decide +kernel
theorem dX10_star_2 : decode cX10_star 2 = .ok (.invokevirtual 196, 3) := by decide +kernel
theorem dX10_star_5 : decode cX10_star 5 = .ok (.ifCond .ne 9, 3) := by decide +kernel
theorem dX10_star_8 : decode cX10_star 8 = .ok (.aload_n 0, 1) := by decide +kernel
theorem dX10_star_9 : decode cX10_star 9 = .ok (.iconst (-1), 1) := by decide +kernel
theorem dX10_star_10 : decode cX10_star 10 = .ok (.invokevirtual 175, 3) := by decide +kernel
theorem dX10_star_13 : decode cX10_star 13 = .ok (.ireturn, 1) := by decide +kernel
theorem dX10_star_14 : decode cX10_star 14 = .ok (.iload_n 2, 1) := by decide +kernel
theorem dX10_star_15 : decode cX10_star 15 = .ok (.ifCond .lt 7, 3) := by decide +kernel
theorem dX10_star_18 : decode cX10_star 18 = .ok (.iload_n 3, 1) := by decide +kernel
theorem dX10_star_19 : decode cX10_star 19 = .ok (.ifCond .ge 10, 3) := by decide +kernel
theorem dX10_star_22 : decode cX10_star 22 = .ok (.aload_n 0, 1) := by decide +kernel
theorem dX10_star_23 : decode cX10_star 23 = .ok (.bipush (-4), 2) := by decide +kernel
theorem dX10_star_25 : decode cX10_star 25 = .ok (.invokevirtual 175, 3) := by decide +kernel
theorem dX10_star_28 : decode cX10_star 28 = .ok (.ireturn, 1) := by decide +kernel
theorem dX10_star_29 : decode cX10_star 29 = .ok (.iload_n 2, 1) := by decide +kernel
theorem dX10_star_30 : decode cX10_star 30 = .ok (.sipush 1500, 3) := by decide +kernel
theorem dX10_star_33 : decode cX10_star 33 = .ok (.if_icmp .gt 10, 3) := by decide +kernel
theorem dX10_star_36 : decode cX10_star 36 = .ok (.iload_n 3, 1) := by decide +kernel
theorem dX10_star_37 : decode cX10_star 37 = .ok (.sipush 1500, 3) := by decide +kernel
theorem dX10_star_40 : decode cX10_star 40 = .ok (.if_icmp .le 12, 3) := by decide +kernel
theorem dX10_star_43 : decode cX10_star 43 = .ok (.aload_n 0, 1) := by decide +kernel
theorem dX10_star_44 : decode cX10_star 44 = .ok (.bipush (-6), 2) := by decide +kernel
theorem dX10_star_46 : decode cX10_star 46 = .ok (.invokevirtual 175, 3) := by decide +kernel
theorem dX10_star_49 : decode cX10_star 49 = .ok (.goto 10, 3) := by decide +kernel
theorem dX10_star_52 : decode cX10_star 52 = .ok (.aload_n 0, 1) := by decide +kernel
theorem dX10_star_53 : decode cX10_star 53 = .ok (.iload_n 1, 1) := by decide +kernel
theorem dX10_star_54 : decode cX10_star 54 = .ok (.iload_n 2, 1) := by decide +kernel
theorem dX10_star_55 : decode cX10_star 55 = .ok (.iload_n 3, 1) := by decide +kernel
theorem dX10_star_56 : decode cX10_star 56 = .ok (.invokevirtual 220, 3) := by decide +kernel
theorem dX10_star_59 : decode cX10_star 59 = .ok (.ireturn, 1) := by decide +kernel
theorem dX10_show_0 : decode cX10_show 0 = .ok (.aload_n 0, 1) := by decide +kernel
theorem dX10_show_1 : decode cX10_show 1 = .ok (.iload_n 1, 1) := by decide +kernel
theorem dX10_show_2 : decode cX10_show 2 = .ok (.invokevirtual 196, 3) := by decide +kernel
theorem dX10_show_5 : decode cX10_show 5 = .ok (.ifCond .ne 9, 3) := by decide +kernel
theorem dX10_show_8 : decode cX10_show 8 = .ok (.aload_n 0, 1) := by decide +kernel
theorem dX10_show_9 : decode cX10_show 9 = .ok (.iconst (-1), 1) := by decide +kernel
theorem dX10_show_10 : decode cX10_show 10 = .ok (.invokevirtual 175, 3) := by decide +kernel
theorem dX10_show_13 : decode cX10_show 13 = .ok (.ireturn, 1) := by decide +kernel
theorem dX10_show_14 : decode cX10_show 14 = .ok (.iload_n 2, 1) := by decide +kernel
theorem dX10_show_15 : decode cX10_show 15 = .ok (.ifCond .ge 10, 3) := by decide +kernel
theorem dX10_show_18 : decode cX10_show 18 = .ok (.aload_n 0, 1) := by decide +kernel
theorem dX10_show_19 : decode cX10_show 19 = .ok (.bipush (-4), 2) := by decide +kernel
theorem dX10_show_21 : decode cX10_show 21 = .ok (.invokevirtual 175, 3) := by decide +kernel
theorem dX10_show_24 : decode cX10_show 24 = .ok (.ireturn, 1) := by decide +kernel
theorem dX10_show_25 : decode cX10_show 25 = .ok (.iload_n 2, 1) := by decide +kernel
theorem dX10_show_26 : decode cX10_show 26 = .ok (.iconst 5, 1) := by decide +kernel
theorem dX10_show_27 : decode cX10_show 27 = .ok (.if_icmp .le 10, 3) := by decide +kernel
theorem dX10_show_30 : decode cX10_show 30 = .ok (.aload_n 0, 1) := by decide +kernel
theorem dX10_show_31 : decode cX10_show 31 = .ok (.bipush (-6), 2) := by decide +kernel
theorem dX10_show_33 : decode cX10_show 33 = .ok (.invokevirtual 175, 3) := by decide +kernel
theorem dX10_show_36 : decode cX10_show 36 = .ok (.ireturn, 1) := by decide +kernel
theorem dX10_show_37 : decode cX10_show 37 = .ok (.aload_n 0, 1) := by decide +kernel
theorem dX10_show_38 : decode cX10_show 38 = .ok (.getfield 47, 3) := by decide +kernel
theorem dX10_show_41 : decode cX10_show 41 = .ok (.iload_n 1, 1) := by decide +kernel
theorem dX10_show_42 : decode cX10_show 42 = .ok (.iaload, 1) := by decide +kernel
theorem dX10_show_43 : decode cX10_show 43 = .ok (.istore_n 3, 1) := by decide +kernel
theorem dX10_show_44 : decode cX10_show 44 = .ok (.aload_n 0, 1) := by decide +kernel
theorem dX10_show_45 : decode cX10_show 45 = .ok (.getfield 47, 3) := by decide +kernel
theorem dX10_show_48 : decode cX10_show 48 = .ok (.iload_n 1, 1) := by decide +kernel
theorem dX10_show_49 : decode cX10_show 49 = .ok (.iload_n 2, 1) := by decide +kernel
theorem dX10_show_50 : decode cX10_show 50 = .ok (.iastore, 1) := by decide +kernel
theorem dX10_show_51 : decode cX10_show 51 = .ok (.iload_n 3, 1) := by decide +kernel
theorem dX10_show_52 : decode cX10_show 52 = .ok (.ireturn, 1) := by decide +kernel
theorem dX10_falses_0 : decode cX10_falses 0 = .ok (.iconst 0, 1) := by decide +kernel
theorem dX10_falses_1 : decode cX10_falses 1 = .ok (.istore_n 1, 1) := by decide +kernel
theorem dX10_falses_2 : decode cX10_falses 2 = .ok (.iconst 0, 1) := by decide +kernel
theorem dX10_falses_3 : decode cX10_falses 3 = .ok (.istore_n 2, 1) := by decide +kernel
theorem dX10_falses_4 : decode cX10_falses 4 = .ok (.iload_n 2, 1) := by decide +kernel
theorem dX10_falses_5 : decode cX10_falses 5 = .ok (.aload_n 0, 1) := by decide +kernel
theorem dX10_falses_6 : decode cX10_falses 6 = .ok (.getfield 165, 3) := by decide +kernel
theorem dX10_falses_9 : decode cX10_falses 9 = .ok (.if_icmp .ge 39, 3) := by decide +kernel
theorem dX10_falses_12 : decode cX10_falses 12 = .ok (.iload_n 1, 1) := by decide +kernel
theorem dX10_falses_13 : decode cX10_falses 13 = .ok (.aload_n 0, 1) := by decide +kernel
theorem dX10_falses_14 : decode cX10_falses 14 = .ok (.getfield 47, 3) := by decide +kernel
theorem dX10_falses_17 : decode cX10_falses 17 = .ok (.iload_n 2, 1) := by decide +kernel
theorem dX10_falses_18 : decode cX10_falses 18 = .ok (.iaload, 1) := by decide +kernel
theorem dX10_falses_19 : decode cX10_falses 19 = .ok (.aload_n 0, 1) := by decide +kernel
theorem dX10_falses_20 : decode cX10_falses 20 = .ok (.iload_n 2, 1) := by decide +kernel
theorem dX10_falses_21 : decode cX10_falses 21 = .ok (.aload_n 0, 1) := by decide +kernel
theorem dX10_falses_22 : decode cX10_falses 22 = .ok (.getfield 179, 3) := by decide +kernel
theorem dX10_falses_25 : decode cX10_falses 25 = .ok (.aload_n 0, 1) := by decide +kernel
theorem dX10_falses_26 : decode cX10_falses 26 = .ok (.getfield 179, 3) := by decide +kernel
theorem dX10_falses_29 : decode cX10_falses 29 = .ok (.invokevirtual 220, 3) := by decide +kernel
theorem dX10_falses_32 : decode cX10_falses 32 = .ok (.if_icmp .le 7, 3) := by decide +kernel
theorem dX10_falses_35 : decode cX10_falses 35 = .ok (.iconst 1, 1) := by decide +kernel
theorem dX10_falses_36 : decode cX10_falses 36 = .ok (.goto 4, 3) := by decide +kernel
theorem dX10_falses_39 : decode cX10_falses 39 = .ok (.iconst 0, 1) := by decide +kernel
theorem dX10_falses_40 : decode cX10_falses 40 = .ok (.iadd, 1) := by decide +kernel
theorem dX10_falses_41 : decode cX10_falses 41 = .ok (.istore_n 1, 1) := by decide +kernel
theorem dX10_falses_42 : decode cX10_falses 42 = .ok (.iinc 2 1, 3) := by decide +kernel
theorem dX10_falses_45 : decode cX10_falses 45 = .ok (.goto (-41), 3) := by decide +kernel
theorem dX10_falses_48 : decode cX10_falses 48 = .ok (.iload_n 1, 1) := by decide +kernel
theorem dX10_falses_49 : decode cX10_falses 49 = .ok (.ireturn, 1) := by decide +kernel
theorem dX10_base_0 : decode cX10_base 0 = .ok (.iload_n 1, 1) := by decide +kernel
theorem dX10_base_1 : decode cX10_base 1 = .ok (.iconst 0, 1) := by decide +kernel
theorem dX10_base_2 : decode cX10_base 2 = .ok (.iconst 3, 1) := by decide +kernel
theorem dX10_base_3 : decode cX10_base 3 = .ok (.invokestatic 168, 3) := by decide +kernel
theorem dX10_base_6 : decode cX10_base 6 = .ok (.ifCond .ne 10, 3) := by decide +kernel
theorem dX10_base_9 : decode cX10_base 9 = .ok (.aload_n 0, 1) := by decide +kernel
theorem dX10_base_10 : decode cX10_base 10 = .ok (.bipush (-2), 2) := by decide +kernel
theorem dX10_base_12 : decode cX10_base 12 = .ok (.invokevirtual 175, 3) := by decide +kernel
theorem dX10_base_15 : decode cX10_base 15 = .ok (.ireturn, 1) := by decide +kernel
theorem dX10_base_16 : decode cX10_base 16 = .ok (.iload_n 2, 1) := by decide +kernel
theorem dX10_base_17 : decode cX10_base 17 = .ok (.iconst 1, 1) := by decide +kernel
theorem dX10_base_18 : decode cX10_base 18 = .ok (.if_icmp .ge 10, 3) := by decide +kernel
theorem dX10_base_21 : decode cX10_base 21 = .ok (.aload_n 0, 1) := by decide +kernel
theorem dX10_base_22 : decode cX10_base 22 = .ok (.bipush (-4), 2) := by decide +kernel
theorem dX10_base_24 : decode cX10_base 24 = .ok (.invokevirtual 175, 3) := by decide +kernel
theorem dX10_base_27 : decode cX10_base 27 = .ok (.ireturn, 1) := by decide +kernel
theorem dX10_base_28 : decode cX10_base 28 = .ok (.iload_n 2, 1) := by decide +kernel
theorem dX10_base_29 : decode cX10_base 29 = .ok (.bipush 50, 2) := by decide +kernel
theorem dX10_base_31 : decode cX10_base 31 = .ok (.if_icmp .le 10, 3) := by decide +kernel
theorem dX10_base_34 : decode cX10_base 34 = .ok (.aload_n 0, 1) := by decide +kernel
theorem dX10_base_35 : decode cX10_base 35 = .ok (.bipush (-6), 2) := by decide +kernel
theorem dX10_base_37 : decode cX10_base 37 = .ok (.invokevirtual 175, 3) := by decide +kernel
theorem dX10_base_40 : decode cX10_base 40 = .ok (.ireturn, 1) := by decide +kernel
theorem dX10_base_41 : decode cX10_base 41 = .ok (.aload_n 0, 1) := by decide +kernel
theorem dX10_base_42 : decode cX10_base 42 = .ok (.getfield 83, 3) := by decide +kernel
theorem dX10_base_45 : decode cX10_base 45 = .ok (.iload_n 1, 1) := by decide +kernel
theorem dX10_base_46 : decode cX10_base 46 = .ok (.iaload, 1) := by decide +kernel
theorem dX10_base_47 : decode cX10_base 47 = .ok (.istore_n 3, 1) := by decide +kernel
theorem dX10_base_48 : decode cX10_base 48 = .ok (.aload_n 0, 1) := by decide +kernel
theorem dX10_base_49 : decode cX10_base 49 = .ok (.getfield 83, 3) := by decide +kernel
theorem dX10_base_52 : decode cX10_base 52 = .ok (.iload_n 1, 1) := by decide +kernel
theorem dX10_base_53 : decode cX10_base 53 = .ok (.iload_n 2, 1) := by decide +kernel
theorem dX10_base_54 : decode cX10_base 54 = .ok (.iastore, 1) := by decide +kernel
theorem dX10_base_55 : decode cX10_base 55 = .ok (.iload_n 3, 1) := by decide +kernel
theorem dX10_base_56 : decode cX10_base 56 = .ok (.ireturn, 1) := by decide +kernel
theorem dX10_riskOf_0 : decode cX10_riskOf 0 = .ok (.aload_n 0, 1) := by decide +kernel
theorem dX10_riskOf_1 : decode cX10_riskOf 1 = .ok (.iload_n 1, 1) := by decide +kernel
theorem dX10_riskOf_2 : decode cX10_riskOf 2 = .ok (.aload_n 0, 1) := by decide +kernel
theorem dX10_riskOf_3 : decode cX10_riskOf 3 = .ok (.getfield 179, 3) := by decide +kernel
theorem dX10_riskOf_6 : decode cX10_riskOf 6 = .ok (.aload_n 0, 1) := by decide +kernel
theorem dX10_riskOf_7 : decode cX10_riskOf 7 = .ok (.getfield 179, 3) := by decide +kernel
theorem dX10_riskOf_10 : decode cX10_riskOf 10 = .ok (.invokevirtual 220, 3) := by decide +kernel
theorem dX10_riskOf_13 : decode cX10_riskOf 13 = .ok (.istore_n 2, 1) := by decide +kernel
theorem dX10_riskOf_14 : decode cX10_riskOf 14 = .ok (.aload_n 0, 1) := by decide +kernel
theorem dX10_riskOf_15 : decode cX10_riskOf 15 = .ok (.getfield 83, 3) := by decide +kernel
theorem dX10_riskOf_18 : decode cX10_riskOf 18 = .ok (.aload_n 0, 1) := by decide +kernel
theorem dX10_riskOf_19 : decode cX10_riskOf 19 = .ok (.getfield 28, 3) := by decide +kernel
theorem dX10_riskOf_22 : decode cX10_riskOf 22 = .ok (.iload_n 1, 1) := by decide +kernel
theorem dX10_riskOf_23 : decode cX10_riskOf 23 = .ok (.iaload, 1) := by decide +kernel
theorem dX10_riskOf_24 : decode cX10_riskOf 24 = .ok (.iaload, 1) := by decide +kernel
theorem dX10_riskOf_25 : decode cX10_riskOf 25 = .ok (.aload_n 0, 1) := by decide +kernel
theorem dX10_riskOf_26 : decode cX10_riskOf 26 = .ok (.getfield 34, 3) := by decide +kernel
theorem dX10_riskOf_29 : decode cX10_riskOf 29 = .ok (.iload_n 1, 1) := by decide +kernel
theorem dX10_riskOf_30 : decode cX10_riskOf 30 = .ok (.iaload, 1) := by decide +kernel
theorem dX10_riskOf_31 : decode cX10_riskOf 31 = .ok (.bipush 50, 2) := by decide +kernel
theorem dX10_riskOf_33 : decode cX10_riskOf 33 = .ok (.idiv, 1) := by decide +kernel
theorem dX10_riskOf_34 : decode cX10_riskOf 34 = .ok (.iadd, 1) := by decide +kernel
theorem dX10_riskOf_35 : decode cX10_riskOf 35 = .ok (.bipush 8, 2) := by decide +kernel
theorem dX10_riskOf_37 : decode cX10_riskOf 37 = .ok (.iload_n 2, 1) := by decide +kernel
theorem dX10_riskOf_38 : decode cX10_riskOf 38 = .ok (.ifCond .ne 7, 3) := by decide +kernel
theorem dX10_riskOf_41 : decode cX10_riskOf 41 = .ok (.iconst 3, 1) := by decide +kernel
theorem dX10_riskOf_42 : decode cX10_riskOf 42 = .ok (.goto 6, 3) := by decide +kernel
theorem dX10_riskOf_45 : decode cX10_riskOf 45 = .ok (.iconst 5, 1) := by decide +kernel
theorem dX10_riskOf_46 : decode cX10_riskOf 46 = .ok (.iload_n 2, 1) := by decide +kernel
theorem dX10_riskOf_47 : decode cX10_riskOf 47 = .ok (.isub, 1) := by decide +kernel
theorem dX10_riskOf_48 : decode cX10_riskOf 48 = .ok (.imul, 1) := by decide +kernel
theorem dX10_riskOf_49 : decode cX10_riskOf 49 = .ok (.iadd, 1) := by decide +kernel
theorem dX10_riskOf_50 : decode cX10_riskOf 50 = .ok (.ireturn, 1) := by decide +kernel
theorem dX10_dueOf_0 : decode cX10_dueOf 0 = .ok (.aload_n 0, 1) := by decide +kernel
theorem dX10_dueOf_1 : decode cX10_dueOf 1 = .ok (.iload_n 1, 1) := by decide +kernel
theorem dX10_dueOf_2 : decode cX10_dueOf 2 = .ok (.aload_n 0, 1) := by decide +kernel
theorem dX10_dueOf_3 : decode cX10_dueOf 3 = .ok (.getfield 179, 3) := by decide +kernel
theorem dX10_dueOf_6 : decode cX10_dueOf 6 = .ok (.aload_n 0, 1) := by decide +kernel
theorem dX10_dueOf_7 : decode cX10_dueOf 7 = .ok (.getfield 179, 3) := by decide +kernel
theorem dX10_dueOf_10 : decode cX10_dueOf 10 = .ok (.invokevirtual 212, 3) := by decide +kernel
theorem dX10_dueOf_13 : decode cX10_dueOf 13 = .ok (.istore_n 2, 1) := by decide +kernel
theorem dX10_dueOf_14 : decode cX10_dueOf 14 = .ok (.sipush 400, 3) := by decide +kernel
theorem dX10_dueOf_17 : decode cX10_dueOf 17 = .ok (.aload_n 0, 1) := by decide +kernel
theorem dX10_dueOf_18 : decode cX10_dueOf 18 = .ok (.iload_n 1, 1) := by decide +kernel
theorem dX10_dueOf_19 : decode cX10_dueOf 19 = .ok (.invokevirtual 223, 3) := by decide +kernel
theorem dX10_dueOf_22 : decode cX10_dueOf 22 = .ok (.idiv, 1) := by decide +kernel
theorem dX10_dueOf_23 : decode cX10_dueOf 23 = .ok (.istore_n 3, 1) := by decide +kernel
theorem dX10_dueOf_24 : decode cX10_dueOf 24 = .ok (.iload_n 2, 1) := by decide +kernel
theorem dX10_dueOf_25 : decode cX10_dueOf 25 = .ok (.ifCond .ge 7, 3) := by decide +kernel
theorem dX10_dueOf_28 : decode cX10_dueOf 28 = .ok (.iconst 0, 1) := by decide +kernel
theorem dX10_dueOf_29 : decode cX10_dueOf 29 = .ok (.goto 22, 3) := by decide +kernel
theorem dX10_dueOf_32 : decode cX10_dueOf 32 = .ok (.aload_n 0, 1) := by decide +kernel
theorem dX10_dueOf_33 : decode cX10_dueOf 33 = .ok (.getfield 59, 3) := by decide +kernel
theorem dX10_dueOf_36 : decode cX10_dueOf 36 = .ok (.iload_n 2, 1) := by decide +kernel
theorem dX10_dueOf_37 : decode cX10_dueOf 37 = .ok (.iaload, 1) := by decide +kernel
theorem dX10_dueOf_38 : decode cX10_dueOf 38 = .ok (.iload_n 3, 1) := by decide +kernel
theorem dX10_dueOf_39 : decode cX10_dueOf 39 = .ok (.bipush 20, 2) := by decide +kernel
theorem dX10_dueOf_41 : decode cX10_dueOf 41 = .ok (.if_icmp .ge 8, 3) := by decide +kernel
theorem dX10_dueOf_44 : decode cX10_dueOf 44 = .ok (.bipush 20, 2) := by decide +kernel
theorem dX10_dueOf_46 : decode cX10_dueOf 46 = .ok (.goto 4, 3) := by decide +kernel
theorem dX10_dueOf_49 : decode cX10_dueOf 49 = .ok (.iload_n 3, 1) := by decide +kernel
theorem dX10_dueOf_50 : decode cX10_dueOf 50 = .ok (.iadd, 1) := by decide +kernel
theorem dX10_dueOf_51 : decode cX10_dueOf 51 = .ok (.ireturn, 1) := by decide +kernel
theorem dX10_risk_0 : decode cX10_risk 0 = .ok (.aload_n 0, 1) := by decide +kernel
theorem dX10_risk_1 : decode cX10_risk 1 = .ok (.iload_n 1, 1) := by decide +kernel
theorem dX10_risk_2 : decode cX10_risk 2 = .ok (.invokevirtual 196, 3) := by decide +kernel
theorem dX10_risk_5 : decode cX10_risk 5 = .ok (.ifCond .ne 9, 3) := by decide +kernel
theorem dX10_risk_8 : decode cX10_risk 8 = .ok (.aload_n 0, 1) := by decide +kernel
theorem dX10_risk_9 : decode cX10_risk 9 = .ok (.iconst (-1), 1) := by decide +kernel
theorem dX10_risk_10 : decode cX10_risk 10 = .ok (.invokevirtual 175, 3) := by decide +kernel
theorem dX10_risk_13 : decode cX10_risk 13 = .ok (.ireturn, 1) := by decide +kernel
theorem dX10_risk_14 : decode cX10_risk 14 = .ok (.iload_n 2, 1) := by decide +kernel
theorem dX10_risk_15 : decode cX10_risk 15 = .ok (.iconst 0, 1) := by decide +kernel
theorem dX10_risk_16 : decode cX10_risk 16 = .ok (.iconst 1, 1) := by decide +kernel
theorem dX10_risk_17 : decode cX10_risk 17 = .ok (.invokestatic 168, 3) := by decide +kernel
theorem dX10_risk_20 : decode cX10_risk 20 = .ok (.ifCond .ne 10, 3) := by decide +kernel
theorem dX10_risk_23 : decode cX10_risk 23 = .ok (.aload_n 0, 1) := by decide +kernel
theorem dX10_risk_24 : decode cX10_risk 24 = .ok (.bipush (-2), 2) := by decide +kernel
theorem dX10_risk_26 : decode cX10_risk 26 = .ok (.invokevirtual 175, 3) := by decide +kernel
theorem dX10_risk_29 : decode cX10_risk 29 = .ok (.ireturn, 1) := by decide +kernel
theorem dX10_risk_30 : decode cX10_risk 30 = .ok (.iload_n 2, 1) := by decide +kernel
theorem dX10_risk_31 : decode cX10_risk 31 = .ok (.ifCond .ne 11, 3) := by decide +kernel
theorem dX10_risk_34 : decode cX10_risk 34 = .ok (.aload_n 0, 1) := by decide +kernel
theorem dX10_risk_35 : decode cX10_risk 35 = .ok (.iload_n 1, 1) := by decide +kernel
theorem dX10_risk_36 : decode cX10_risk 36 = .ok (.invokevirtual 223, 3) := by decide +kernel
theorem dX10_risk_39 : decode cX10_risk 39 = .ok (.goto 8, 3) := by decide +kernel
theorem dX10_risk_42 : decode cX10_risk 42 = .ok (.aload_n 0, 1) := by decide +kernel
theorem dX10_risk_43 : decode cX10_risk 43 = .ok (.iload_n 1, 1) := by decide +kernel
theorem dX10_risk_44 : decode cX10_risk 44 = .ok (.invokevirtual 226, 3) := by decide +kernel
theorem dX10_risk_47 : decode cX10_risk 47 = .ok (.ireturn, 1) := by decide +kernel
theorem dX10_costOf_0 : decode cX10_costOf 0 = .ok (.iload_n 2, 1) := by decide +kernel
theorem dX10_costOf_1 : decode cX10_costOf 1 = .ok (.aload_n 0, 1) := by decide +kernel
theorem dX10_costOf_2 : decode cX10_costOf 2 = .ok (.iload_n 1, 1) := by decide +kernel
theorem dX10_costOf_3 : decode cX10_costOf 3 = .ok (.invokevirtual 226, 3) := by decide +kernel
theorem dX10_costOf_6 : decode cX10_costOf 6 = .ok (.isub, 1) := by decide +kernel
theorem dX10_costOf_7 : decode cX10_costOf 7 = .ok (.istore_n 3, 1) := by decide +kernel
theorem dX10_costOf_8 : decode cX10_costOf 8 = .ok (.iload_n 3, 1) := by decide +kernel
theorem dX10_costOf_9 : decode cX10_costOf 9 = .ok (.ifCond .gt 5, 3) := by decide +kernel
theorem dX10_costOf_12 : decode cX10_costOf 12 = .ok (.iconst 0, 1) := by decide +kernel
theorem dX10_costOf_13 : decode cX10_costOf 13 = .ok (.ireturn, 1) := by decide +kernel
theorem dX10_costOf_14 : decode cX10_costOf 14 = .ok (.aload_n 0, 1) := by decide +kernel
theorem dX10_costOf_15 : decode cX10_costOf 15 = .ok (.iload_n 1, 1) := by decide +kernel
theorem dX10_costOf_16 : decode cX10_costOf 16 = .ok (.invokevirtual 223, 3) := by decide +kernel
theorem dX10_costOf_19 : decode cX10_costOf 19 = .ok (.iload_n 3, 1) := by decide +kernel
theorem dX10_costOf_20 : decode cX10_costOf 20 = .ok (.imul, 1) := by decide +kernel
theorem dX10_costOf_21 : decode cX10_costOf 21 = .ok (.istore 4, 2) := by decide +kernel
theorem dX10_costOf_23 : decode cX10_costOf 23 = .ok (.iconst 0, 1) := by decide +kernel
theorem dX10_costOf_24 : decode cX10_costOf 24 = .ok (.istore 5, 2) := by decide +kernel
theorem dX10_costOf_26 : decode cX10_costOf 26 = .ok (.iload 5, 2) := by decide +kernel
theorem dX10_costOf_28 : decode cX10_costOf 28 = .ok (.iload_n 3, 1) := by decide +kernel
theorem dX10_costOf_29 : decode cX10_costOf 29 = .ok (.bipush 30, 2) := by decide +kernel
theorem dX10_costOf_31 : decode cX10_costOf 31 = .ok (.idiv, 1) := by decide +kernel
theorem dX10_costOf_32 : decode cX10_costOf 32 = .ok (.if_icmp .ge 19, 3) := by decide +kernel
theorem dX10_costOf_35 : decode cX10_costOf 35 = .ok (.iload 4, 2) := by decide +kernel
theorem dX10_costOf_37 : decode cX10_costOf 37 = .ok (.iload 4, 2) := by decide +kernel
theorem dX10_costOf_39 : decode cX10_costOf 39 = .ok (.bipush 10, 2) := by decide +kernel
theorem dX10_costOf_41 : decode cX10_costOf 41 = .ok (.idiv, 1) := by decide +kernel
theorem dX10_costOf_42 : decode cX10_costOf 42 = .ok (.iadd, 1) := by decide +kernel
theorem dX10_costOf_43 : decode cX10_costOf 43 = .ok (.istore 4, 2) := by decide +kernel
theorem dX10_costOf_45 : decode cX10_costOf 45 = .ok (.iinc 5 1, 3) := by decide +kernel
theorem dX10_costOf_48 : decode cX10_costOf 48 = .ok (.goto (-22), 3) := by decide +kernel
theorem dX10_costOf_51 : decode cX10_costOf 51 = .ok (.iload 4, 2) := by decide +kernel
theorem dX10_costOf_53 : decode cX10_costOf 53 = .ok (.ireturn, 1) := by decide +kernel
theorem dX10_delay_0 : decode cX10_delay 0 = .ok (.aload_n 0, 1) := by decide +kernel
theorem dX10_delay_1 : decode cX10_delay 1 = .ok (.iload_n 1, 1) := by decide +kernel
theorem dX10_delay_2 : decode cX10_delay 2 = .ok (.invokevirtual 196, 3) := by decide +kernel
theorem dX10_delay_5 : decode cX10_delay 5 = .ok (.ifCond .ne 9, 3) := by decide +kernel
theorem dX10_delay_8 : decode cX10_delay 8 = .ok (.aload_n 0, 1) := by decide +kernel
theorem dX10_delay_9 : decode cX10_delay 9 = .ok (.iconst (-1), 1) := by decide +kernel
theorem dX10_delay_10 : decode cX10_delay 10 = .ok (.invokevirtual 175, 3) := by decide +kernel
theorem dX10_delay_13 : decode cX10_delay 13 = .ok (.ireturn, 1) := by decide +kernel
theorem dX10_delay_14 : decode cX10_delay 14 = .ok (.iload_n 2, 1) := by decide +kernel
theorem dX10_delay_15 : decode cX10_delay 15 = .ok (.invokestatic 189, 3) := by decide +kernel
theorem dX10_delay_18 : decode cX10_delay 18 = .ok (.ifCond .ge 14, 3) := by decide +kernel
theorem dX10_delay_21 : decode cX10_delay 21 = .ok (.aload_n 0, 1) := by decide +kernel
theorem dX10_delay_22 : decode cX10_delay 22 = .ok (.iload_n 2, 1) := by decide +kernel
theorem dX10_delay_23 : decode cX10_delay 23 = .ok (.invokestatic 189, 3) := by decide +kernel
theorem dX10_delay_26 : decode cX10_delay 26 = .ok (.invokevirtual 175, 3) := by decide +kernel
theorem dX10_delay_29 : decode cX10_delay 29 = .ok (.goto 9, 3) := by decide +kernel
theorem dX10_delay_32 : decode cX10_delay 32 = .ok (.aload_n 0, 1) := by decide +kernel
theorem dX10_delay_33 : decode cX10_delay 33 = .ok (.iload_n 1, 1) := by decide +kernel
theorem dX10_delay_34 : decode cX10_delay 34 = .ok (.iload_n 2, 1) := by decide +kernel
theorem dX10_delay_35 : decode cX10_delay 35 = .ok (.invokevirtual 229, 3) := by decide +kernel
theorem dX10_delay_38 : decode cX10_delay 38 = .ok (.ireturn, 1) := by decide +kernel
theorem dX10_capacity_0 : decode cX10_capacity 0 = .ok (.iload_n 1, 1) := by decide +kernel
theorem dX10_capacity_1 : decode cX10_capacity 1 = .ok (.iconst 1, 1) := by decide +kernel
theorem dX10_capacity_2 : decode cX10_capacity 2 = .ok (.if_icmp .ge 10, 3) := by decide +kernel
theorem dX10_capacity_5 : decode cX10_capacity 5 = .ok (.aload_n 0, 1) := by decide +kernel
theorem dX10_capacity_6 : decode cX10_capacity 6 = .ok (.bipush (-4), 2) := by decide +kernel
theorem dX10_capacity_8 : decode cX10_capacity 8 = .ok (.invokevirtual 175, 3) := by decide +kernel
theorem dX10_capacity_11 : decode cX10_capacity 11 = .ok (.ireturn, 1) := by decide +kernel
theorem dX10_capacity_12 : decode cX10_capacity 12 = .ok (.iload_n 1, 1) := by decide +kernel
theorem dX10_capacity_13 : decode cX10_capacity 13 = .ok (.bipush 9, 2) := by decide +kernel
theorem dX10_capacity_15 : decode cX10_capacity 15 = .ok (.if_icmp .le 10, 3) := by decide +kernel
theorem dX10_capacity_18 : decode cX10_capacity 18 = .ok (.aload_n 0, 1) := by decide +kernel
theorem dX10_capacity_19 : decode cX10_capacity 19 = .ok (.bipush (-6), 2) := by decide +kernel
theorem dX10_capacity_21 : decode cX10_capacity 21 = .ok (.invokevirtual 175, 3) := by decide +kernel
theorem dX10_capacity_24 : decode cX10_capacity 24 = .ok (.ireturn, 1) := by decide +kernel
theorem dX10_capacity_25 : decode cX10_capacity 25 = .ok (.aload_n 0, 1) := by decide +kernel
theorem dX10_capacity_26 : decode cX10_capacity 26 = .ok (.getfield 86, 3) := by decide +kernel
theorem dX10_capacity_29 : decode cX10_capacity 29 = .ok (.istore_n 2, 1) := by decide +kernel
theorem dX10_capacity_30 : decode cX10_capacity 30 = .ok (.aload_n 0, 1) := by decide +kernel
theorem dX10_capacity_31 : decode cX10_capacity 31 = .ok (.iload_n 1, 1) := by decide +kernel
theorem dX10_capacity_32 : decode cX10_capacity 32 = .ok (.putfield 86, 3) := by decide +kernel
theorem dX10_capacity_35 : decode cX10_capacity 35 = .ok (.iload_n 2, 1) := by decide +kernel
theorem dX10_capacity_36 : decode cX10_capacity 36 = .ok (.ireturn, 1) := by decide +kernel
theorem dX10_ask_0 : decode cX10_ask 0 = .ok (.aload_n 0, 1) := by decide +kernel
theorem dX10_ask_1 : decode cX10_ask 1 = .ok (.iconst 0, 1) := by decide +kernel
theorem dX10_ask_2 : decode cX10_ask 2 = .ok (.putfield 232, 3) := by decide +kernel
theorem dX10_ask_5 : decode cX10_ask 5 = .ok (.iconst 0, 1) := by decide +kernel
theorem dX10_ask_6 : decode cX10_ask 6 = .ok (.istore_n 1, 1) := by decide +kernel
theorem dX10_ask_7 : decode cX10_ask 7 = .ok (.iconst 0, 1) := by decide +kernel
theorem dX10_ask_8 : decode cX10_ask 8 = .ok (.istore_n 2, 1) := by decide +kernel
theorem dX10_ask_9 : decode cX10_ask 9 = .ok (.iload_n 2, 1) := by decide +kernel
theorem dX10_ask_10 : decode cX10_ask 10 = .ok (.bipush 6, 2) := by decide +kernel
theorem dX10_ask_12 : decode cX10_ask 12 = .ok (.if_icmp .ge 119, 3) := by decide +kernel
theorem dX10_ask_15 : decode cX10_ask 15 = .ok (.iconst (-1), 1) := by decide +kernel
theorem dX10_ask_16 : decode cX10_ask 16 = .ok (.istore_n 3, 1) := by decide +kernel
theorem dX10_ask_17 : decode cX10_ask 17 = .ok (.iconst 0, 1) := by decide +kernel
theorem dX10_ask_18 : decode cX10_ask 18 = .ok (.istore 4, 2) := by decide +kernel
theorem dX10_ask_20 : decode cX10_ask 20 = .ok (.iload 4, 2) := by decide +kernel
theorem dX10_ask_22 : decode cX10_ask 22 = .ok (.aload_n 0, 1) := by decide +kernel
theorem dX10_ask_23 : decode cX10_ask 23 = .ok (.getfield 165, 3) := by decide +kernel
theorem dX10_ask_26 : decode cX10_ask 26 = .ok (.if_icmp .ge 85, 3) := by decide +kernel
theorem dX10_ask_29 : decode cX10_ask 29 = .ok (.iload_n 1, 1) := by decide +kernel
theorem dX10_ask_30 : decode cX10_ask 30 = .ok (.iload 4, 2) := by decide +kernel
theorem dX10_ask_32 : decode cX10_ask 32 = .ok (.ishr, 1) := by decide +kernel
theorem dX10_ask_33 : decode cX10_ask 33 = .ok (.iconst 1, 1) := by decide +kernel
theorem dX10_ask_34 : decode cX10_ask 34 = .ok (.iand, 1) := by decide +kernel
theorem dX10_ask_35 : decode cX10_ask 35 = .ok (.ifCond .ne 23, 3) := by decide +kernel
theorem dX10_ask_38 : decode cX10_ask 38 = .ok (.aload_n 0, 1) := by decide +kernel
theorem dX10_ask_39 : decode cX10_ask 39 = .ok (.iload 4, 2) := by decide +kernel
theorem dX10_ask_41 : decode cX10_ask 41 = .ok (.invokevirtual 226, 3) := by decide +kernel
theorem dX10_ask_44 : decode cX10_ask 44 = .ok (.aload_n 0, 1) := by decide +kernel
theorem dX10_ask_45 : decode cX10_ask 45 = .ok (.getfield 179, 3) := by decide +kernel
theorem dX10_ask_48 : decode cX10_ask 48 = .ok (.bipush 7, 2) := by decide +kernel
theorem dX10_ask_50 : decode cX10_ask 50 = .ok (.iadd, 1) := by decide +kernel
theorem dX10_ask_51 : decode cX10_ask 51 = .ok (.if_icmp .ge 7, 3) := by decide +kernel
theorem dX10_ask_54 : decode cX10_ask 54 = .ok (.iconst 1, 1) := by decide +kernel
theorem dX10_ask_55 : decode cX10_ask 55 = .ok (.goto 4, 3) := by decide +kernel
theorem dX10_ask_58 : decode cX10_ask 58 = .ok (.iconst 0, 1) := by decide +kernel
theorem dX10_ask_59 : decode cX10_ask 59 = .ok (.istore 5, 2) := by decide +kernel
theorem dX10_ask_61 : decode cX10_ask 61 = .ok (.iload 5, 2) := by decide +kernel
theorem dX10_ask_63 : decode cX10_ask 63 = .ok (.ifCond .eq 40, 3) := by decide +kernel
theorem dX10_ask_66 : decode cX10_ask 66 = .ok (.iload_n 3, 1) := by decide +kernel
theorem dX10_ask_67 : decode cX10_ask 67 = .ok (.ifCond .lt 31, 3) := by decide +kernel
theorem dX10_ask_70 : decode cX10_ask 70 = .ok (.aload_n 0, 1) := by decide +kernel
theorem dX10_ask_71 : decode cX10_ask 71 = .ok (.iload 4, 2) := by decide +kernel
theorem dX10_ask_73 : decode cX10_ask 73 = .ok (.aload_n 0, 1) := by decide +kernel
theorem dX10_ask_74 : decode cX10_ask 74 = .ok (.getfield 179, 3) := by decide +kernel
theorem dX10_ask_77 : decode cX10_ask 77 = .ok (.bipush 7, 2) := by decide +kernel
theorem dX10_ask_79 : decode cX10_ask 79 = .ok (.iadd, 1) := by decide +kernel
theorem dX10_ask_80 : decode cX10_ask 80 = .ok (.invokevirtual 229, 3) := by decide +kernel
theorem dX10_ask_83 : decode cX10_ask 83 = .ok (.aload_n 0, 1) := by decide +kernel
theorem dX10_ask_84 : decode cX10_ask 84 = .ok (.iload_n 3, 1) := by decide +kernel
theorem dX10_ask_85 : decode cX10_ask 85 = .ok (.aload_n 0, 1) := by decide +kernel
theorem dX10_ask_86 : decode cX10_ask 86 = .ok (.getfield 179, 3) := by decide +kernel
theorem dX10_ask_89 : decode cX10_ask 89 = .ok (.bipush 7, 2) := by decide +kernel
theorem dX10_ask_91 : decode cX10_ask 91 = .ok (.iadd, 1) := by decide +kernel
theorem dX10_ask_92 : decode cX10_ask 92 = .ok (.invokevirtual 229, 3) := by decide +kernel
theorem dX10_ask_95 : decode cX10_ask 95 = .ok (.if_icmp .le 8, 3) := by decide +kernel
theorem dX10_ask_98 : decode cX10_ask 98 = .ok (.iload 4, 2) := by decide +kernel
theorem dX10_ask_100 : decode cX10_ask 100 = .ok (.goto 4, 3) := by decide +kernel
theorem dX10_ask_103 : decode cX10_ask 103 = .ok (.iload_n 3, 1) := by decide +kernel
theorem dX10_ask_104 : decode cX10_ask 104 = .ok (.istore_n 3, 1) := by decide +kernel
theorem dX10_ask_105 : decode cX10_ask 105 = .ok (.iinc 4 1, 3) := by decide +kernel
theorem dX10_ask_108 : decode cX10_ask 108 = .ok (.goto (-88), 3) := by decide +kernel
theorem dX10_ask_111 : decode cX10_ask 111 = .ok (.iload_n 1, 1) := by decide +kernel
theorem dX10_ask_112 : decode cX10_ask 112 = .ok (.iload_n 3, 1) := by decide +kernel
theorem dX10_ask_113 : decode cX10_ask 113 = .ok (.ifCond .ge 7, 3) := by decide +kernel
theorem dX10_ask_116 : decode cX10_ask 116 = .ok (.iconst 0, 1) := by decide +kernel
theorem dX10_ask_117 : decode cX10_ask 117 = .ok (.goto 6, 3) := by decide +kernel
theorem dX10_ask_120 : decode cX10_ask 120 = .ok (.iconst 1, 1) := by decide +kernel
theorem dX10_ask_121 : decode cX10_ask 121 = .ok (.iload_n 3, 1) := by decide +kernel
theorem dX10_ask_122 : decode cX10_ask 122 = .ok (.ishl, 1) := by decide +kernel
theorem dX10_ask_123 : decode cX10_ask 123 = .ok (.ior, 1) := by decide +kernel
theorem dX10_ask_124 : decode cX10_ask 124 = .ok (.istore_n 1, 1) := by decide +kernel
theorem dX10_ask_125 : decode cX10_ask 125 = .ok (.iinc 2 1, 3) := by decide +kernel
theorem dX10_ask_128 : decode cX10_ask 128 = .ok (.goto (-119), 3) := by decide +kernel
theorem dX10_ask_131 : decode cX10_ask 131 = .ok (.iconst 0, 1) := by decide +kernel
theorem dX10_ask_132 : decode cX10_ask 132 = .ok (.istore_n 2, 1) := by decide +kernel
theorem dX10_ask_133 : decode cX10_ask 133 = .ok (.iload_n 2, 1) := by decide +kernel
theorem dX10_ask_134 : decode cX10_ask 134 = .ok (.aload_n 0, 1) := by decide +kernel
theorem dX10_ask_135 : decode cX10_ask 135 = .ok (.getfield 165, 3) := by decide +kernel
theorem dX10_ask_138 : decode cX10_ask 138 = .ok (.if_icmp .ge 104, 3) := by decide +kernel
theorem dX10_ask_141 : decode cX10_ask 141 = .ok (.iload_n 1, 1) := by decide +kernel
theorem dX10_ask_142 : decode cX10_ask 142 = .ok (.iload_n 2, 1) := by decide +kernel
theorem dX10_ask_143 : decode cX10_ask 143 = .ok (.ishr, 1) := by decide +kernel
theorem dX10_ask_144 : decode cX10_ask 144 = .ok (.iconst 1, 1) := by decide +kernel
theorem dX10_ask_145 : decode cX10_ask 145 = .ok (.iand, 1) := by decide +kernel
theorem dX10_ask_146 : decode cX10_ask 146 = .ok (.iconst 1, 1) := by decide +kernel
theorem dX10_ask_147 : decode cX10_ask 147 = .ok (.if_icmp .ne 89, 3) := by decide +kernel
theorem dX10_ask_150 : decode cX10_ask 150 = .ok (.aload_n 0, 1) := by decide +kernel
theorem dX10_ask_151 : decode cX10_ask 151 = .ok (.getfield 90, 3) := by decide +kernel
theorem dX10_ask_154 : decode cX10_ask 154 = .ok (.aload_n 0, 1) := by decide +kernel
theorem dX10_ask_155 : decode cX10_ask 155 = .ok (.getfield 232, 3) := by decide +kernel
theorem dX10_ask_158 : decode cX10_ask 158 = .ok (.iload_n 2, 1) := by decide +kernel
theorem dX10_ask_159 : decode cX10_ask 159 = .ok (.iastore, 1) := by decide +kernel
theorem dX10_ask_160 : decode cX10_ask 160 = .ok (.iconst 0, 1) := by decide +kernel
theorem dX10_ask_161 : decode cX10_ask 161 = .ok (.istore_n 3, 1) := by decide +kernel
theorem dX10_ask_162 : decode cX10_ask 162 = .ok (.iload_n 3, 1) := by decide +kernel
theorem dX10_ask_163 : decode cX10_ask 163 = .ok (.iconst 5, 1) := by decide +kernel
theorem dX10_ask_164 : decode cX10_ask 164 = .ok (.if_icmp .ge 34, 3) := by decide +kernel
theorem dX10_ask_167 : decode cX10_ask 167 = .ok (.aload_n 0, 1) := by decide +kernel
theorem dX10_ask_168 : decode cX10_ask 168 = .ok (.getfield 93, 3) := by decide +kernel
theorem dX10_ask_171 : decode cX10_ask 171 = .ok (.bipush 6, 2) := by decide +kernel
theorem dX10_ask_173 : decode cX10_ask 173 = .ok (.aload_n 0, 1) := by decide +kernel
theorem dX10_ask_174 : decode cX10_ask 174 = .ok (.getfield 232, 3) := by decide +kernel
theorem dX10_ask_177 : decode cX10_ask 177 = .ok (.imul, 1) := by decide +kernel
theorem dX10_ask_178 : decode cX10_ask 178 = .ok (.iload_n 3, 1) := by decide +kernel
theorem dX10_ask_179 : decode cX10_ask 179 = .ok (.iadd, 1) := by decide +kernel
theorem dX10_ask_180 : decode cX10_ask 180 = .ok (.aload_n 0, 1) := by decide +kernel
theorem dX10_ask_181 : decode cX10_ask 181 = .ok (.iload_n 2, 1) := by decide +kernel
theorem dX10_ask_182 : decode cX10_ask 182 = .ok (.aload_n 0, 1) := by decide +kernel
theorem dX10_ask_183 : decode cX10_ask 183 = .ok (.getfield 179, 3) := by decide +kernel
theorem dX10_ask_186 : decode cX10_ask 186 = .ok (.iload_n 3, 1) := by decide +kernel
theorem dX10_ask_187 : decode cX10_ask 187 = .ok (.iadd, 1) := by decide +kernel
theorem dX10_ask_188 : decode cX10_ask 188 = .ok (.invokevirtual 229, 3) := by decide +kernel
theorem dX10_ask_191 : decode cX10_ask 191 = .ok (.iastore, 1) := by decide +kernel
theorem dX10_ask_192 : decode cX10_ask 192 = .ok (.iinc 3 1, 3) := by decide +kernel
theorem dX10_ask_195 : decode cX10_ask 195 = .ok (.goto (-33), 3) := by decide +kernel
theorem dX10_ask_198 : decode cX10_ask 198 = .ok (.aload_n 0, 1) := by decide +kernel
theorem dX10_ask_199 : decode cX10_ask 199 = .ok (.getfield 93, 3) := by decide +kernel
theorem dX10_ask_202 : decode cX10_ask 202 = .ok (.bipush 6, 2) := by decide +kernel
theorem dX10_ask_204 : decode cX10_ask 204 = .ok (.aload_n 0, 1) := by decide +kernel
theorem dX10_ask_205 : decode cX10_ask 205 = .ok (.getfield 232, 3) := by decide +kernel
theorem dX10_ask_208 : decode cX10_ask 208 = .ok (.imul, 1) := by decide +kernel
theorem dX10_ask_209 : decode cX10_ask 209 = .ok (.iconst 5, 1) := by decide +kernel
theorem dX10_ask_210 : decode cX10_ask 210 = .ok (.iadd, 1) := by decide +kernel
theorem dX10_ask_211 : decode cX10_ask 211 = .ok (.iconst 2, 1) := by decide +kernel
theorem dX10_ask_212 : decode cX10_ask 212 = .ok (.aload_n 0, 1) := by decide +kernel
theorem dX10_ask_213 : decode cX10_ask 213 = .ok (.iload_n 2, 1) := by decide +kernel
theorem dX10_ask_214 : decode cX10_ask 214 = .ok (.aload_n 0, 1) := by decide +kernel
theorem dX10_ask_215 : decode cX10_ask 215 = .ok (.getfield 179, 3) := by decide +kernel
theorem dX10_ask_218 : decode cX10_ask 218 = .ok (.bipush 7, 2) := by decide +kernel
theorem dX10_ask_220 : decode cX10_ask 220 = .ok (.iadd, 1) := by decide +kernel
theorem dX10_ask_221 : decode cX10_ask 221 = .ok (.invokevirtual 229, 3) := by decide +kernel
theorem dX10_ask_224 : decode cX10_ask 224 = .ok (.imul, 1) := by decide +kernel
theorem dX10_ask_225 : decode cX10_ask 225 = .ok (.iastore, 1) := by decide +kernel
theorem dX10_ask_226 : decode cX10_ask 226 = .ok (.aload_n 0, 1) := by decide +kernel
theorem dX10_ask_227 : decode cX10_ask 227 = .ok (.dup, 1) := by decide +kernel
theorem dX10_ask_228 : decode cX10_ask 228 = .ok (.getfield 232, 3) := by decide +kernel
theorem dX10_ask_231 : decode cX10_ask 231 = .ok (.iconst 1, 1) := by decide +kernel
theorem dX10_ask_232 : decode cX10_ask 232 = .ok (.iadd, 1) := by decide +kernel
theorem dX10_ask_233 : decode cX10_ask 233 = .ok (.putfield 232, 3) := by decide +kernel
theorem dX10_ask_236 : decode cX10_ask 236 = .ok (.iinc 2 1, 3) := by decide +kernel
theorem dX10_ask_239 : decode cX10_ask 239 = .ok (.goto (-106), 3) := by decide +kernel
theorem dX10_ask_242 : decode cX10_ask 242 = .ok (.aload_n 0, 1) := by decide +kernel
theorem dX10_ask_243 : decode cX10_ask 243 = .ok (.getfield 96, 3) := by decide +kernel
theorem dX10_ask_246 : decode cX10_ask 246 = .ok (.aload_n 0, 1) := by decide +kernel
theorem dX10_ask_247 : decode cX10_ask 247 = .ok (.getfield 232, 3) := by decide +kernel
theorem dX10_ask_250 : decode cX10_ask 250 = .ok (.iconst 0, 1) := by decide +kernel
theorem dX10_ask_251 : decode cX10_ask 251 = .ok (.iastore, 1) := by decide +kernel
theorem dX10_ask_252 : decode cX10_ask 252 = .ok (.aload_n 0, 1) := by decide +kernel
theorem dX10_ask_253 : decode cX10_ask 253 = .ok (.getfield 232, 3) := by decide +kernel
theorem dX10_ask_256 : decode cX10_ask 256 = .ok (.iconst 1, 1) := by decide +kernel
theorem dX10_ask_257 : decode cX10_ask 257 = .ok (.isub, 1) := by decide +kernel
theorem dX10_ask_258 : decode cX10_ask 258 = .ok (.istore_n 2, 1) := by decide +kernel
theorem dX10_ask_259 : decode cX10_ask 259 = .ok (.iload_n 2, 1) := by decide +kernel
theorem dX10_ask_260 : decode cX10_ask 260 = .ok (.ifCond .lt 33, 3) := by decide +kernel
theorem dX10_ask_263 : decode cX10_ask 263 = .ok (.aload_n 0, 1) := by decide +kernel
theorem dX10_ask_264 : decode cX10_ask 264 = .ok (.getfield 96, 3) := by decide +kernel
theorem dX10_ask_267 : decode cX10_ask 267 = .ok (.iload_n 2, 1) := by decide +kernel
theorem dX10_ask_268 : decode cX10_ask 268 = .ok (.aload_n 0, 1) := by decide +kernel
theorem dX10_ask_269 : decode cX10_ask 269 = .ok (.getfield 96, 3) := by decide +kernel
theorem dX10_ask_272 : decode cX10_ask 272 = .ok (.iload_n 2, 1) := by decide +kernel
theorem dX10_ask_273 : decode cX10_ask 273 = .ok (.iconst 1, 1) := by decide +kernel
theorem dX10_ask_274 : decode cX10_ask 274 = .ok (.iadd, 1) := by decide +kernel
theorem dX10_ask_275 : decode cX10_ask 275 = .ok (.iaload, 1) := by decide +kernel
theorem dX10_ask_276 : decode cX10_ask 276 = .ok (.aload_n 0, 1) := by decide +kernel
theorem dX10_ask_277 : decode cX10_ask 277 = .ok (.getfield 93, 3) := by decide +kernel
theorem dX10_ask_280 : decode cX10_ask 280 = .ok (.bipush 6, 2) := by decide +kernel
theorem dX10_ask_282 : decode cX10_ask 282 = .ok (.iload_n 2, 1) := by decide +kernel
theorem dX10_ask_283 : decode cX10_ask 283 = .ok (.imul, 1) := by decide +kernel
theorem dX10_ask_284 : decode cX10_ask 284 = .ok (.iaload, 1) := by decide +kernel
theorem dX10_ask_285 : decode cX10_ask 285 = .ok (.iadd, 1) := by decide +kernel
theorem dX10_ask_286 : decode cX10_ask 286 = .ok (.iastore, 1) := by decide +kernel
theorem dX10_ask_287 : decode cX10_ask 287 = .ok (.iinc 2 (-1), 3) := by decide +kernel
theorem dX10_ask_290 : decode cX10_ask 290 = .ok (.goto (-31), 3) := by decide +kernel
theorem dX10_ask_293 : decode cX10_ask 293 = .ok (.return_, 1) := by decide +kernel
theorem dX10_ones_0 : decode cX10_ones 0 = .ok (.iconst 0, 1) := by decide +kernel
theorem dX10_ones_1 : decode cX10_ones 1 = .ok (.istore_n 1, 1) := by decide +kernel
theorem dX10_ones_2 : decode cX10_ones 2 = .ok (.iload_n 0, 1) := by decide +kernel
theorem dX10_ones_3 : decode cX10_ones 3 = .ok (.istore_n 2, 1) := by decide +kernel
theorem dX10_ones_4 : decode cX10_ones 4 = .ok (.iload_n 2, 1) := by decide +kernel
theorem dX10_ones_5 : decode cX10_ones 5 = .ok (.ifCond .le 16, 3) := by decide +kernel
theorem dX10_ones_8 : decode cX10_ones 8 = .ok (.iload_n 1, 1) := by decide +kernel
theorem dX10_ones_9 : decode cX10_ones 9 = .ok (.iload_n 2, 1) := by decide +kernel
theorem dX10_ones_10 : decode cX10_ones 10 = .ok (.iconst 2, 1) := by decide +kernel
theorem dX10_ones_11 : decode cX10_ones 11 = .ok (.irem, 1) := by decide +kernel
theorem dX10_ones_12 : decode cX10_ones 12 = .ok (.iadd, 1) := by decide +kernel
theorem dX10_ones_13 : decode cX10_ones 13 = .ok (.istore_n 1, 1) := by decide +kernel
theorem dX10_ones_14 : decode cX10_ones 14 = .ok (.iload_n 2, 1) := by decide +kernel
theorem dX10_ones_15 : decode cX10_ones 15 = .ok (.iconst 2, 1) := by decide +kernel
theorem dX10_ones_16 : decode cX10_ones 16 = .ok (.idiv, 1) := by decide +kernel
theorem dX10_ones_17 : decode cX10_ones 17 = .ok (.istore_n 2, 1) := by decide +kernel
theorem dX10_ones_18 : decode cX10_ones 18 = .ok (.goto (-14), 3) := by decide +kernel
theorem dX10_ones_21 : decode cX10_ones 21 = .ok (.iload_n 1, 1) := by decide +kernel
theorem dX10_ones_22 : decode cX10_ones 22 = .ok (.ireturn, 1) := by decide +kernel
theorem dX10_mayTake_0 : decode cX10_mayTake 0 = .ok (.iload_n 2, 1) := by decide +kernel
theorem dX10_mayTake_1 : decode cX10_mayTake 1 = .ok (.bipush 40, 2) := by decide +kernel
theorem dX10_mayTake_3 : decode cX10_mayTake 3 = .ok (.if_icmp .ne 5, 3) := by decide +kernel
theorem dX10_mayTake_6 : decode cX10_mayTake 6 = .ok (.iconst 1, 1) := by decide +kernel
theorem dX10_mayTake_7 : decode cX10_mayTake 7 = .ok (.ireturn, 1) := by decide +kernel
theorem dX10_mayTake_8 : decode cX10_mayTake 8 = .ok (.iload_n 2, 1) := by decide +kernel
theorem dX10_mayTake_9 : decode cX10_mayTake 9 = .ok (.bipush 8, 2) := by decide +kernel
theorem dX10_mayTake_11 : decode cX10_mayTake 11 = .ok (.irem, 1) := by decide +kernel
theorem dX10_mayTake_12 : decode cX10_mayTake 12 = .ok (.istore 4, 2) := by decide +kernel
theorem dX10_mayTake_14 : decode cX10_mayTake 14 = .ok (.iload 4, 2) := by decide +kernel
theorem dX10_mayTake_16 : decode cX10_mayTake 16 = .ok (.iload_n 3, 1) := by decide +kernel
theorem dX10_mayTake_17 : decode cX10_mayTake 17 = .ok (.ishr, 1) := by decide +kernel
theorem dX10_mayTake_18 : decode cX10_mayTake 18 = .ok (.ifCond .ne 30, 3) := by decide +kernel
theorem dX10_mayTake_21 : decode cX10_mayTake 21 = .ok (.iload 4, 2) := by decide +kernel
theorem dX10_mayTake_23 : decode cX10_mayTake 23 = .ok (.invokestatic 235, 3) := by decide +kernel
theorem dX10_mayTake_26 : decode cX10_mayTake 26 = .ok (.aload_n 0, 1) := by decide +kernel
theorem dX10_mayTake_27 : decode cX10_mayTake 27 = .ok (.getfield 43, 3) := by decide +kernel
theorem dX10_mayTake_30 : decode cX10_mayTake 30 = .ok (.aload_n 0, 1) := by decide +kernel
theorem dX10_mayTake_31 : decode cX10_mayTake 31 = .ok (.getfield 90, 3) := by decide +kernel
theorem dX10_mayTake_34 : decode cX10_mayTake 34 = .ok (.iload_n 1, 1) := by decide +kernel
theorem dX10_mayTake_35 : decode cX10_mayTake 35 = .ok (.iaload, 1) := by decide +kernel
theorem dX10_mayTake_36 : decode cX10_mayTake 36 = .ok (.baload, 1) := by decide +kernel
theorem dX10_mayTake_37 : decode cX10_mayTake 37 = .ok (.ifCond .eq 7, 3) := by decide +kernel
theorem dX10_mayTake_40 : decode cX10_mayTake 40 = .ok (.iconst 2, 1) := by decide +kernel
theorem dX10_mayTake_41 : decode cX10_mayTake 41 = .ok (.goto 4, 3) := by decide +kernel
theorem dX10_mayTake_44 : decode cX10_mayTake 44 = .ok (.iconst 1, 1) := by decide +kernel
theorem dX10_mayTake_45 : decode cX10_mayTake 45 = .ok (.if_icmp .eq 5, 3) := by decide +kernel
theorem dX10_mayTake_48 : decode cX10_mayTake 48 = .ok (.iconst 0, 1) := by decide +kernel
theorem dX10_mayTake_49 : decode cX10_mayTake 49 = .ok (.ireturn, 1) := by decide +kernel
theorem dX10_mayTake_50 : decode cX10_mayTake 50 = .ok (.iconst 1, 1) := by decide +kernel
theorem dX10_mayTake_51 : decode cX10_mayTake 51 = .ok (.istore 5, 2) := by decide +kernel
theorem dX10_mayTake_53 : decode cX10_mayTake 53 = .ok (.iconst 0, 1) := by decide +kernel
theorem dX10_mayTake_54 : decode cX10_mayTake 54 = .ok (.istore 6, 2) := by decide +kernel
theorem dX10_mayTake_56 : decode cX10_mayTake 56 = .ok (.iload 6, 2) := by decide +kernel
theorem dX10_mayTake_58 : decode cX10_mayTake 58 = .ok (.iload_n 3, 1) := by decide +kernel
theorem dX10_mayTake_59 : decode cX10_mayTake 59 = .ok (.if_icmp .ge 77, 3) := by decide +kernel
theorem dX10_mayTake_62 : decode cX10_mayTake 62 = .ok (.iload 5, 2) := by decide +kernel
theorem dX10_mayTake_64 : decode cX10_mayTake 64 = .ok (.ifCond .eq 63, 3) := by decide +kernel
theorem dX10_mayTake_67 : decode cX10_mayTake 67 = .ok (.iload 4, 2) := by decide +kernel
theorem dX10_mayTake_69 : decode cX10_mayTake 69 = .ok (.iload 6, 2) := by decide +kernel
theorem dX10_mayTake_71 : decode cX10_mayTake 71 = .ok (.ishr, 1) := by decide +kernel
theorem dX10_mayTake_72 : decode cX10_mayTake 72 = .ok (.iconst 1, 1) := by decide +kernel
theorem dX10_mayTake_73 : decode cX10_mayTake 73 = .ok (.iand, 1) := by decide +kernel
theorem dX10_mayTake_74 : decode cX10_mayTake 74 = .ok (.ifCond .eq 49, 3) := by decide +kernel
theorem dX10_mayTake_77 : decode cX10_mayTake 77 = .ok (.aload_n 0, 1) := by decide +kernel
theorem dX10_mayTake_78 : decode cX10_mayTake 78 = .ok (.getfield 50, 3) := by decide +kernel
theorem dX10_mayTake_81 : decode cX10_mayTake 81 = .ok (.bipush 10, 2) := by decide +kernel
theorem dX10_mayTake_83 : decode cX10_mayTake 83 = .ok (.iload 6, 2) := by decide +kernel
theorem dX10_mayTake_85 : decode cX10_mayTake 85 = .ok (.imul, 1) := by decide +kernel
theorem dX10_mayTake_86 : decode cX10_mayTake 86 = .ok (.aload_n 0, 1) := by decide +kernel
theorem dX10_mayTake_87 : decode cX10_mayTake 87 = .ok (.getfield 37, 3) := by decide +kernel
theorem dX10_mayTake_90 : decode cX10_mayTake 90 = .ok (.aload_n 0, 1) := by decide +kernel
theorem dX10_mayTake_91 : decode cX10_mayTake 91 = .ok (.getfield 90, 3) := by decide +kernel
theorem dX10_mayTake_94 : decode cX10_mayTake 94 = .ok (.iload_n 1, 1) := by decide +kernel
theorem dX10_mayTake_95 : decode cX10_mayTake 95 = .ok (.iaload, 1) := by decide +kernel
theorem dX10_mayTake_96 : decode cX10_mayTake 96 = .ok (.iaload, 1) := by decide +kernel
theorem dX10_mayTake_97 : decode cX10_mayTake 97 = .ok (.iadd, 1) := by decide +kernel
theorem dX10_mayTake_98 : decode cX10_mayTake 98 = .ok (.baload, 1) := by decide +kernel
theorem dX10_mayTake_99 : decode cX10_mayTake 99 = .ok (.ifCond .ne 28, 3) := by decide +kernel
theorem dX10_mayTake_102 : decode cX10_mayTake 102 = .ok (.aload_n 0, 1) := by decide +kernel
theorem dX10_mayTake_103 : decode cX10_mayTake 103 = .ok (.getfield 108, 3) := by decide +kernel
theorem dX10_mayTake_106 : decode cX10_mayTake 106 = .ok (.iconst 3, 1) := by decide +kernel
theorem dX10_mayTake_107 : decode cX10_mayTake 107 = .ok (.iload_n 2, 1) := by decide +kernel
theorem dX10_mayTake_108 : decode cX10_mayTake 108 = .ok (.bipush 8, 2) := by decide +kernel
theorem dX10_mayTake_110 : decode cX10_mayTake 110 = .ok (.idiv, 1) := by decide +kernel
theorem dX10_mayTake_111 : decode cX10_mayTake 111 = .ok (.imul, 1) := by decide +kernel
theorem dX10_mayTake_112 : decode cX10_mayTake 112 = .ok (.iload 6, 2) := by decide +kernel
theorem dX10_mayTake_114 : decode cX10_mayTake 114 = .ok (.iadd, 1) := by decide +kernel
theorem dX10_mayTake_115 : decode cX10_mayTake 115 = .ok (.iaload, 1) := by decide +kernel
theorem dX10_mayTake_116 : decode cX10_mayTake 116 = .ok (.aload_n 0, 1) := by decide +kernel
theorem dX10_mayTake_117 : decode cX10_mayTake 117 = .ok (.getfield 86, 3) := by decide +kernel
theorem dX10_mayTake_120 : decode cX10_mayTake 120 = .ok (.if_icmp .ge 7, 3) := by decide +kernel
theorem dX10_mayTake_123 : decode cX10_mayTake 123 = .ok (.iconst 1, 1) := by decide +kernel
theorem dX10_mayTake_124 : decode cX10_mayTake 124 = .ok (.goto 4, 3) := by decide +kernel
theorem dX10_mayTake_127 : decode cX10_mayTake 127 = .ok (.iconst 0, 1) := by decide +kernel
theorem dX10_mayTake_128 : decode cX10_mayTake 128 = .ok (.istore 5, 2) := by decide +kernel
theorem dX10_mayTake_130 : decode cX10_mayTake 130 = .ok (.iinc 6 1, 3) := by decide +kernel
theorem dX10_mayTake_133 : decode cX10_mayTake 133 = .ok (.goto (-77), 3) := by decide +kernel
theorem dX10_mayTake_136 : decode cX10_mayTake 136 = .ok (.iload 5, 2) := by decide +kernel
theorem dX10_mayTake_138 : decode cX10_mayTake 138 = .ok (.ireturn, 1) := by decide +kernel
theorem dX10_use_0 : decode cX10_use 0 = .ok (.iconst 0, 1) := by decide +kernel
theorem dX10_use_1 : decode cX10_use 1 = .ok (.istore_n 3, 1) := by decide +kernel
theorem dX10_use_2 : decode cX10_use 2 = .ok (.iload_n 3, 1) := by decide +kernel
theorem dX10_use_3 : decode cX10_use 3 = .ok (.iconst 3, 1) := by decide +kernel
theorem dX10_use_4 : decode cX10_use 4 = .ok (.if_icmp .ge 41, 3) := by decide +kernel
theorem dX10_use_7 : decode cX10_use 7 = .ok (.iload_n 1, 1) := by decide +kernel
theorem dX10_use_8 : decode cX10_use 8 = .ok (.bipush 40, 2) := by decide +kernel
theorem dX10_use_10 : decode cX10_use 10 = .ok (.if_icmp .ge 35, 3) := by decide +kernel
theorem dX10_use_13 : decode cX10_use 13 = .ok (.aload_n 0, 1) := by decide +kernel
theorem dX10_use_14 : decode cX10_use 14 = .ok (.getfield 108, 3) := by decide +kernel
theorem dX10_use_17 : decode cX10_use 17 = .ok (.iconst 3, 1) := by decide +kernel
theorem dX10_use_18 : decode cX10_use 18 = .ok (.iload_n 1, 1) := by decide +kernel
theorem dX10_use_19 : decode cX10_use 19 = .ok (.bipush 8, 2) := by decide +kernel
theorem dX10_use_21 : decode cX10_use 21 = .ok (.idiv, 1) := by decide +kernel
theorem dX10_use_22 : decode cX10_use 22 = .ok (.imul, 1) := by decide +kernel
theorem dX10_use_23 : decode cX10_use 23 = .ok (.iload_n 3, 1) := by decide +kernel
theorem dX10_use_24 : decode cX10_use 24 = .ok (.iadd, 1) := by decide +kernel
theorem dX10_use_25 : decode cX10_use 25 = .ok (.dup2, 1) := by decide +kernel
theorem dX10_use_26 : decode cX10_use 26 = .ok (.iaload, 1) := by decide +kernel
theorem dX10_use_27 : decode cX10_use 27 = .ok (.iload_n 1, 1) := by decide +kernel
theorem dX10_use_28 : decode cX10_use 28 = .ok (.bipush 8, 2) := by decide +kernel
theorem dX10_use_30 : decode cX10_use 30 = .ok (.irem, 1) := by decide +kernel
theorem dX10_use_31 : decode cX10_use 31 = .ok (.iload_n 3, 1) := by decide +kernel
theorem dX10_use_32 : decode cX10_use 32 = .ok (.ishr, 1) := by decide +kernel
theorem dX10_use_33 : decode cX10_use 33 = .ok (.iconst 1, 1) := by decide +kernel
theorem dX10_use_34 : decode cX10_use 34 = .ok (.iand, 1) := by decide +kernel
theorem dX10_use_35 : decode cX10_use 35 = .ok (.iload_n 2, 1) := by decide +kernel
theorem dX10_use_36 : decode cX10_use 36 = .ok (.imul, 1) := by decide +kernel
theorem dX10_use_37 : decode cX10_use 37 = .ok (.iadd, 1) := by decide +kernel
theorem dX10_use_38 : decode cX10_use 38 = .ok (.iastore, 1) := by decide +kernel
theorem dX10_use_39 : decode cX10_use 39 = .ok (.iinc 3 1, 3) := by decide +kernel
theorem dX10_use_42 : decode cX10_use 42 = .ok (.goto (-40), 3) := by decide +kernel
theorem dX10_use_45 : decode cX10_use 45 = .ok (.return_, 1) := by decide +kernel
