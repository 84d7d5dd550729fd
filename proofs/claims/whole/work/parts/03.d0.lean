theorem dX0_init_0 : decode cX0_init 0 = .ok (.aload_n 0, 1) := by decide +kernel
theorem dX0_init_1 : decode cX0_init 1 = .ok (.invokespecial 3, 3) := by decide +kernel
theorem dX0_init_4 : decode cX0_init 4 = .ok (.aload_n 0, 1) := by decide +kernel
theorem dX0_init_5 : decode cX0_init 5 = .ok (.bipush 40, 2) := by decide +kernel
theorem dX0_init_7 : decode cX0_init 7 = .ok (.newarray .int, 2) := by decide +kernel
theorem dX0_init_9 : decode cX0_init 9 = .ok (.putfield 9, 3) := by decide +kernel
theorem dX0_init_12 : decode cX0_init 12 = .ok (.aload_n 0, 1) := by decide +kernel
theorem dX0_init_13 : decode cX0_init 13 = .ok (.bipush 40, 2) := by decide +kernel
theorem dX0_init_15 : decode cX0_init 15 = .ok (.newarray .int, 2) := by decide +kernel
theorem dX0_init_17 : decode cX0_init 17 = .ok (.putfield 15, 3) := by decide +kernel
theorem dX0_init_20 : decode cX0_init 20 = .ok (.aload_n 0, 1) := by decide +kernel
theorem dX0_init_21 : decode cX0_init 21 = .ok (.bipush 40, 2) := by decide +kernel
theorem dX0_init_23 : decode cX0_init 23 = .ok (.newarray .int, 2) := by decide +kernel
theorem dX0_init_25 : decode cX0_init 25 = .ok (.putfield 18, 3) := by decide +kernel
theorem dX0_init_28 : decode cX0_init 28 = .ok (.aload_n 0, 1) := by decide +kernel
theorem dX0_init_29 : decode cX0_init 29 = .ok (.bipush 40, 2) := by decide +kernel
theorem dX0_init_31 : decode cX0_init 31 = .ok (.newarray .int, 2) := by decide +kernel
theorem dX0_init_33 : decode cX0_init 33 = .ok (.putfield 21, 3) := by decide +kernel
theorem dX0_init_36 : decode cX0_init 36 = .ok (.aload_n 0, 1) := by decide +kernel
theorem dX0_init_37 : decode cX0_init 37 = .ok (.bipush 40, 2) := by decide +kernel
theorem dX0_init_39 : decode cX0_init 39 = .ok (.newarray .int, 2) := by decide +kernel
theorem dX0_init_41 : decode cX0_init 41 = .ok (.putfield 24, 3) := by decide +kernel
theorem dX0_init_44 : decode cX0_init 44 = .ok (.aload_n 0, 1) := by decide +kernel
theorem dX0_init_45 : decode cX0_init 45 = .ok (.iconst 5, 1) := by decide +kernel
theorem dX0_init_46 : decode cX0_init 46 = .ok (.newarray .int, 2) := by decide +kernel
theorem dX0_init_48 : decode cX0_init 48 = .ok (.putfield 27, 3) := by decide +kernel
theorem dX0_init_51 : decode cX0_init 51 = .ok (.aload_n 0, 1) := by decide +kernel
theorem dX0_init_52 : decode cX0_init 52 = .ok (.iconst 0, 1) := by decide +kernel
theorem dX0_init_53 : decode cX0_init 53 = .ok (.putfield 30, 3) := by decide +kernel
theorem dX0_init_56 : decode cX0_init 56 = .ok (.aload_n 0, 1) := by decide +kernel
theorem dX0_init_57 : decode cX0_init 57 = .ok (.getfield 21, 3) := by decide +kernel
theorem dX0_init_60 : decode cX0_init 60 = .ok (.iconst (-1), 1) := by decide +kernel
theorem dX0_init_61 : decode cX0_init 61 = .ok (.invokestatic 34, 3) := by decide +kernel
theorem dX0_init_64 : decode cX0_init 64 = .ok (.aload_n 0, 1) := by decide +kernel
theorem dX0_init_65 : decode cX0_init 65 = .ok (.getfield 27, 3) := by decide +kernel
theorem dX0_init_68 : decode cX0_init 68 = .ok (.bipush 60, 2) := by decide +kernel
theorem dX0_init_70 : decode cX0_init 70 = .ok (.invokestatic 34, 3) := by decide +kernel
theorem dX0_init_73 : decode cX0_init 73 = .ok (.return_, 1) := by decide +kernel
theorem dX0_size_0 : decode cX0_size 0 = .ok (.aload_n 0, 1) := by decide +kernel
theorem dX0_size_1 : decode cX0_size 1 = .ok (.getfield 30, 3) := by decide +kernel
theorem dX0_size_4 : decode cX0_size 4 = .ok (.ireturn, 1) := by decide +kernel
theorem dX0_isFull_0 : decode cX0_isFull 0 = .ok (.aload_n 0, 1) := by decide +kernel
theorem dX0_isFull_1 : decode cX0_isFull 1 = .ok (.getfield 30, 3) := by decide +kernel
theorem dX0_isFull_4 : decode cX0_isFull 4 = .ok (.bipush 40, 2) := by decide +kernel
theorem dX0_isFull_6 : decode cX0_isFull 6 = .ok (.if_icmp .lt 7, 3) := by decide +kernel
theorem dX0_isFull_9 : decode cX0_isFull 9 = .ok (.iconst 1, 1) := by decide +kernel
theorem dX0_isFull_10 : decode cX0_isFull 10 = .ok (.goto 4, 3) := by decide +kernel
theorem dX0_isFull_13 : decode cX0_isFull 13 = .ok (.iconst 0, 1) := by decide +kernel
theorem dX0_isFull_14 : decode cX0_isFull 14 = .ok (.ireturn, 1) := by decide +kernel
theorem dX0_has_0 : decode cX0_has 0 = .ok (.iload_n 1, 1) := by decide +kernel
theorem dX0_has_1 : decode cX0_has 1 = .ok (.ifCond .lt 15, 3) := by decide +kernel
theorem dX0_has_4 : decode cX0_has 4 = .ok (.iload_n 1, 1) := by decide +kernel
theorem dX0_has_5 : decode cX0_has 5 = .ok (.aload_n 0, 1) := by decide +kernel
theorem dX0_has_6 : decode cX0_has 6 = .ok (.getfield 30, 3) := by decide +kernel
theorem dX0_has_9 : decode cX0_has 9 = .ok (.if_icmp .ge 7, 3) := by decide +kernel
theorem dX0_has_12 : decode cX0_has 12 = .ok (.iconst 1, 1) := by decide +kernel
theorem dX0_has_13 : decode cX0_has 13 = .ok (.goto 4, 3) := by decide +kernel
theorem dX0_has_16 : decode cX0_has 16 = .ok (.iconst 0, 1) := by decide +kernel
theorem dX0_has_17 : decode cX0_has 17 = .ok (.ireturn, 1) := by decide +kernel
theorem dX0_add_0 : decode cX0_add 0 = .ok (.aload_n 0, 1) := by decide +kernel
theorem dX0_add_1 : decode cX0_add 1 = .ok (.getfield 9, 3) := by decide +kernel
theorem dX0_add_4 : decode cX0_add 4 = .ok (.aload_n 0, 1) := by decide +kernel
theorem dX0_add_5 : decode cX0_add 5 = .ok (.getfield 30, 3) := by decide +kernel
theorem dX0_add_8 : decode cX0_add 8 = .ok (.iload_n 1, 1) := by decide +kernel
theorem dX0_add_9 : decode cX0_add 9 = .ok (.iastore, 1) := by decide +kernel
theorem dX0_add_10 : decode cX0_add 10 = .ok (.aload_n 0, 1) := by decide +kernel
theorem dX0_add_11 : decode cX0_add 11 = .ok (.getfield 15, 3) := by decide +kernel
theorem dX0_add_14 : decode cX0_add 14 = .ok (.aload_n 0, 1) := by decide +kernel
theorem dX0_add_15 : decode cX0_add 15 = .ok (.getfield 30, 3) := by decide +kernel
theorem dX0_add_18 : decode cX0_add 18 = .ok (.iload_n 2, 1) := by decide +kernel
theorem dX0_add_19 : decode cX0_add 19 = .ok (.iastore, 1) := by decide +kernel
theorem dX0_add_20 : decode cX0_add 20 = .ok (.aload_n 0, 1) := by decide +kernel
theorem dX0_add_21 : decode cX0_add 21 = .ok (.getfield 18, 3) := by decide +kernel
theorem dX0_add_24 : decode cX0_add 24 = .ok (.aload_n 0, 1) := by decide +kernel
theorem dX0_add_25 : decode cX0_add 25 = .ok (.getfield 30, 3) := by decide +kernel
theorem dX0_add_28 : decode cX0_add 28 = .ok (.iload_n 3, 1) := by decide +kernel
theorem dX0_add_29 : decode cX0_add 29 = .ok (.iastore, 1) := by decide +kernel
theorem dX0_add_30 : decode cX0_add 30 = .ok (.aload_n 0, 1) := by decide +kernel
theorem dX0_add_31 : decode cX0_add 31 = .ok (.dup, 1) := by decide +kernel
theorem dX0_add_32 : decode cX0_add 32 = .ok (.getfield 30, 3) := by decide +kernel
theorem dX0_add_35 : decode cX0_add 35 = .ok (.dup_x1, 1) := by decide +kernel
theorem dX0_add_36 : decode cX0_add 36 = .ok (.iconst 1, 1) := by decide +kernel
theorem dX0_add_37 : decode cX0_add 37 = .ok (.iadd, 1) := by decide +kernel
theorem dX0_add_38 : decode cX0_add 38 = .ok (.putfield 30, 3) := by decide +kernel
theorem dX0_add_41 : decode cX0_add 41 = .ok (.ireturn, 1) := by decide +kernel
theorem dX0_isInForce_0 : decode cX0_isInForce 0 = .ok (.aload_n 0, 1) := by decide +kernel
theorem dX0_isInForce_1 : decode cX0_isInForce 1 = .ok (.getfield 18, 3) := by decide +kernel
theorem dX0_isInForce_4 : decode cX0_isInForce 4 = .ok (.iload_n 1, 1) := by decide +kernel
theorem dX0_isInForce_5 : decode cX0_isInForce 5 = .ok (.iaload, 1) := by decide +kernel
theorem dX0_isInForce_6 : decode cX0_isInForce 6 = .ok (.iload_n 2, 1) := by decide +kernel
theorem dX0_isInForce_7 : decode cX0_isInForce 7 = .ok (.if_icmp .gt 7, 3) := by decide +kernel
theorem dX0_isInForce_10 : decode cX0_isInForce 10 = .ok (.iconst 1, 1) := by decide +kernel
theorem dX0_isInForce_11 : decode cX0_isInForce 11 = .ok (.goto 4, 3) := by decide +kernel
theorem dX0_isInForce_14 : decode cX0_isInForce 14 = .ok (.iconst 0, 1) := by decide +kernel
theorem dX0_isInForce_15 : decode cX0_isInForce 15 = .ok (.ireturn, 1) := by decide +kernel
theorem dX0_isTurned_0 : decode cX0_isTurned 0 = .ok (.aload_n 0, 1) := by decide +kernel
theorem dX0_isTurned_1 : decode cX0_isTurned 1 = .ok (.getfield 21, 3) := by decide +kernel
theorem dX0_isTurned_4 : decode cX0_isTurned 4 = .ok (.iload_n 1, 1) := by decide +kernel
theorem dX0_isTurned_5 : decode cX0_isTurned 5 = .ok (.iaload, 1) := by decide +kernel
theorem dX0_isTurned_6 : decode cX0_isTurned 6 = .ok (.iconst (-1), 1) := by decide +kernel
theorem dX0_isTurned_7 : decode cX0_isTurned 7 = .ok (.if_icmp .eq 7, 3) := by decide +kernel
theorem dX0_isTurned_10 : decode cX0_isTurned 10 = .ok (.iconst 1, 1) := by decide +kernel
theorem dX0_isTurned_11 : decode cX0_isTurned 11 = .ok (.goto 4, 3) := by decide +kernel
theorem dX0_isTurned_14 : decode cX0_isTurned 14 = .ok (.iconst 0, 1) := by decide +kernel
theorem dX0_isTurned_15 : decode cX0_isTurned 15 = .ok (.ireturn, 1) := by decide +kernel
theorem dX0_turnInto_0 : decode cX0_turnInto 0 = .ok (.aload_n 0, 1) := by decide +kernel
theorem dX0_turnInto_1 : decode cX0_turnInto 1 = .ok (.getfield 21, 3) := by decide +kernel
theorem dX0_turnInto_4 : decode cX0_turnInto 4 = .ok (.iload_n 1, 1) := by decide +kernel
theorem dX0_turnInto_5 : decode cX0_turnInto 5 = .ok (.iload_n 2, 1) := by decide +kernel
theorem dX0_turnInto_6 : decode cX0_turnInto 6 = .ok (.iastore, 1) := by decide +kernel
theorem dX0_turnInto_7 : decode cX0_turnInto 7 = .ok (.aload_n 0, 1) := by decide +kernel
theorem dX0_turnInto_8 : decode cX0_turnInto 8 = .ok (.getfield 24, 3) := by decide +kernel
theorem dX0_turnInto_11 : decode cX0_turnInto 11 = .ok (.iload_n 1, 1) := by decide +kernel
theorem dX0_turnInto_12 : decode cX0_turnInto 12 = .ok (.iload_n 3, 1) := by decide +kernel
theorem dX0_turnInto_13 : decode cX0_turnInto 13 = .ok (.iastore, 1) := by decide +kernel
theorem dX0_turnInto_14 : decode cX0_turnInto 14 = .ok (.return_, 1) := by decide +kernel
theorem dX0_standingFor_0 : decode cX0_standingFor 0 = .ok (.iload_n 1, 1) := by decide +kernel
theorem dX0_standingFor_1 : decode cX0_standingFor 1 = .ok (.istore_n 3, 1) := by decide +kernel
theorem dX0_standingFor_2 : decode cX0_standingFor 2 = .ok (.iconst 0, 1) := by decide +kernel
theorem dX0_standingFor_3 : decode cX0_standingFor 3 = .ok (.istore 4, 2) := by decide +kernel
theorem dX0_standingFor_5 : decode cX0_standingFor 5 = .ok (.iload 4, 2) := by decide +kernel
theorem dX0_standingFor_7 : decode cX0_standingFor 7 = .ok (.bipush 40, 2) := by decide +kernel
theorem dX0_standingFor_9 : decode cX0_standingFor 9 = .ok (.if_icmp .ge 39, 3) := by decide +kernel
theorem dX0_standingFor_12 : decode cX0_standingFor 12 = .ok (.aload_n 0, 1) := by decide +kernel
theorem dX0_standingFor_13 : decode cX0_standingFor 13 = .ok (.getfield 21, 3) := by decide +kernel
theorem dX0_standingFor_16 : decode cX0_standingFor 16 = .ok (.iload_n 3, 1) := by decide +kernel
theorem dX0_standingFor_17 : decode cX0_standingFor 17 = .ok (.iaload, 1) := by decide +kernel
theorem dX0_standingFor_18 : decode cX0_standingFor 18 = .ok (.iconst (-1), 1) := by decide +kernel
theorem dX0_standingFor_19 : decode cX0_standingFor 19 = .ok (.if_icmp .eq 29, 3) := by decide +kernel
theorem dX0_standingFor_22 : decode cX0_standingFor 22 = .ok (.aload_n 0, 1) := by decide +kernel
theorem dX0_standingFor_23 : decode cX0_standingFor 23 = .ok (.getfield 24, 3) := by decide +kernel
theorem dX0_standingFor_26 : decode cX0_standingFor 26 = .ok (.iload_n 3, 1) := by decide +kernel
theorem dX0_standingFor_27 : decode cX0_standingFor 27 = .ok (.iaload, 1) := by decide +kernel
theorem dX0_standingFor_28 : decode cX0_standingFor 28 = .ok (.iload_n 2, 1) := by decide +kernel
theorem dX0_standingFor_29 : decode cX0_standingFor 29 = .ok (.if_icmp .le 6, 3) := by decide +kernel
theorem dX0_standingFor_32 : decode cX0_standingFor 32 = .ok (.goto 16, 3) := by decide +kernel
theorem dX0_standingFor_35 : decode cX0_standingFor 35 = .ok (.aload_n 0, 1) := by decide +kernel
theorem dX0_standingFor_36 : decode cX0_standingFor 36 = .ok (.getfield 21, 3) := by decide +kernel
theorem dX0_standingFor_39 : decode cX0_standingFor 39 = .ok (.iload_n 3, 1) := by decide +kernel
theorem dX0_standingFor_40 : decode cX0_standingFor 40 = .ok (.iaload, 1) := by decide +kernel
theorem dX0_standingFor_41 : decode cX0_standingFor 41 = .ok (.istore_n 3, 1) := by decide +kernel
theorem dX0_standingFor_42 : decode cX0_standingFor 42 = .ok (.iinc 4 1, 3) := by decide +kernel
theorem dX0_standingFor_45 : decode cX0_standingFor 45 = .ok (.goto (-40), 3) := by decide +kernel
theorem dX0_standingFor_48 : decode cX0_standingFor 48 = .ok (.iload_n 3, 1) := by decide +kernel
theorem dX0_standingFor_49 : decode cX0_standingFor 49 = .ok (.ireturn, 1) := by decide +kernel
theorem dX0_groupOf_0 : decode cX0_groupOf 0 = .ok (.aload_n 0, 1) := by decide +kernel
theorem dX0_groupOf_1 : decode cX0_groupOf 1 = .ok (.getfield 9, 3) := by decide +kernel
theorem dX0_groupOf_4 : decode cX0_groupOf 4 = .ok (.iload_n 1, 1) := by decide +kernel
theorem dX0_groupOf_5 : decode cX0_groupOf 5 = .ok (.iaload, 1) := by decide +kernel
theorem dX0_groupOf_6 : decode cX0_groupOf 6 = .ok (.ireturn, 1) := by decide +kernel
theorem dX0_pointsOf_0 : decode cX0_pointsOf 0 = .ok (.aload_n 0, 1) := by decide +kernel
theorem dX0_pointsOf_1 : decode cX0_pointsOf 1 = .ok (.getfield 15, 3) := by decide +kernel
theorem dX0_pointsOf_4 : decode cX0_pointsOf 4 = .ok (.iload_n 1, 1) := by decide +kernel
theorem dX0_pointsOf_5 : decode cX0_pointsOf 5 = .ok (.iaload, 1) := by decide +kernel
theorem dX0_pointsOf_6 : decode cX0_pointsOf 6 = .ok (.ireturn, 1) := by decide +kernel
theorem dX0_mostOf_0 : decode cX0_mostOf 0 = .ok (.aload_n 0, 1) := by decide +kernel
theorem dX0_mostOf_1 : decode cX0_mostOf 1 = .ok (.getfield 27, 3) := by decide +kernel
theorem dX0_mostOf_4 : decode cX0_mostOf 4 = .ok (.iload_n 1, 1) := by decide +kernel
theorem dX0_mostOf_5 : decode cX0_mostOf 5 = .ok (.iaload, 1) := by decide +kernel
theorem dX0_mostOf_6 : decode cX0_mostOf 6 = .ok (.ireturn, 1) := by decide +kernel
theorem dX0_changeMost_0 : decode cX0_changeMost 0 = .ok (.aload_n 0, 1) := by decide +kernel
theorem dX0_changeMost_1 : decode cX0_changeMost 1 = .ok (.getfield 27, 3) := by decide +kernel
theorem dX0_changeMost_4 : decode cX0_changeMost 4 = .ok (.iload_n 1, 1) := by decide +kernel
theorem dX0_changeMost_5 : decode cX0_changeMost 5 = .ok (.iaload, 1) := by decide +kernel
theorem dX0_changeMost_6 : decode cX0_changeMost 6 = .ok (.istore_n 3, 1) := by decide +kernel
theorem dX0_changeMost_7 : decode cX0_changeMost 7 = .ok (.aload_n 0, 1) := by decide +kernel
theorem dX0_changeMost_8 : decode cX0_changeMost 8 = .ok (.getfield 27, 3) := by decide +kernel
theorem dX0_changeMost_11 : decode cX0_changeMost 11 = .ok (.iload_n 1, 1) := by decide +kernel
theorem dX0_changeMost_12 : decode cX0_changeMost 12 = .ok (.iload_n 2, 1) := by decide +kernel
theorem dX0_changeMost_13 : decode cX0_changeMost 13 = .ok (.iastore, 1) := by decide +kernel
theorem dX0_changeMost_14 : decode cX0_changeMost 14 = .ok (.iload_n 3, 1) := by decide +kernel
theorem dX0_changeMost_15 : decode cX0_changeMost 15 = .ok (.ireturn, 1) := by decide +kernel
theorem dX1_init_0 : decode cX1_init 0 = .ok (.aload_n 0, 1) := by decide +kernel
theorem dX1_init_1 : decode cX1_init 1 = .ok (.invokespecial 3, 3) := by decide +kernel
theorem dX1_init_4 : decode cX1_init 4 = .ok (.aload_n 0, 1) := by decide +kernel
theorem dX1_init_5 : decode cX1_init 5 = .ok (.bipush 20, 2) := by decide +kernel
theorem dX1_init_7 : decode cX1_init 7 = .ok (.newarray .int, 2) := by decide +kernel
theorem dX1_init_9 : decode cX1_init 9 = .ok (.putfield 9, 3) := by decide +kernel
theorem dX1_init_12 : decode cX1_init 12 = .ok (.aload_n 0, 1) := by decide +kernel
theorem dX1_init_13 : decode cX1_init 13 = .ok (.bipush 20, 2) := by decide +kernel
theorem dX1_init_15 : decode cX1_init 15 = .ok (.newarray .int, 2) := by decide +kernel
theorem dX1_init_17 : decode cX1_init 17 = .ok (.putfield 15, 3) := by decide +kernel
theorem dX1_init_20 : decode cX1_init 20 = .ok (.aload_n 0, 1) := by decide +kernel
theorem dX1_init_21 : decode cX1_init 21 = .ok (.bipush 20, 2) := by decide +kernel
theorem dX1_init_23 : decode cX1_init 23 = .ok (.newarray .int, 2) := by decide +kernel
theorem dX1_init_25 : decode cX1_init 25 = .ok (.putfield 18, 3) := by decide +kernel
theorem dX1_init_28 : decode cX1_init 28 = .ok (.aload_n 0, 1) := by decide +kernel
theorem dX1_init_29 : decode cX1_init 29 = .ok (.bipush 20, 2) := by decide +kernel
theorem dX1_init_31 : decode cX1_init 31 = .ok (.newarray .int, 2) := by decide +kernel
theorem dX1_init_33 : decode cX1_init 33 = .ok (.putfield 21, 3) := by decide +kernel
theorem dX1_init_36 : decode cX1_init 36 = .ok (.aload_n 0, 1) := by decide +kernel
theorem dX1_init_37 : decode cX1_init 37 = .ok (.bipush 20, 2) := by decide +kernel
theorem dX1_init_39 : decode cX1_init 39 = .ok (.newarray .int, 2) := by decide +kernel
theorem dX1_init_41 : decode cX1_init 41 = .ok (.putfield 24, 3) := by decide +kernel
theorem dX1_init_44 : decode cX1_init 44 = .ok (.aload_n 0, 1) := by decide +kernel
theorem dX1_init_45 : decode cX1_init 45 = .ok (.new 27, 3) := by decide +kernel
theorem dX1_init_48 : decode cX1_init 48 = .ok (.dup, 1) := by decide +kernel
theorem dX1_init_49 : decode cX1_init 49 = .ok (.invokespecial 29, 3) := by decide +kernel
theorem dX1_init_52 : decode cX1_init 52 = .ok (.putfield 30, 3) := by decide +kernel
theorem dX1_init_55 : decode cX1_init 55 = .ok (.aload_n 0, 1) := by decide +kernel
theorem dX1_init_56 : decode cX1_init 56 = .ok (.iconst 0, 1) := by decide +kernel
theorem dX1_init_57 : decode cX1_init 57 = .ok (.putfield 34, 3) := by decide +kernel
theorem dX1_init_60 : decode cX1_init 60 = .ok (.aload_n 0, 1) := by decide +kernel
theorem dX1_init_61 : decode cX1_init 61 = .ok (.aload_n 1, 1) := by decide +kernel
theorem dX1_init_62 : decode cX1_init 62 = .ok (.putfield 38, 3) := by decide +kernel
theorem dX1_init_65 : decode cX1_init 65 = .ok (.return_, 1) := by decide +kernel
theorem dX1_size_0 : decode cX1_size 0 = .ok (.aload_n 0, 1) := by decide +kernel
theorem dX1_size_1 : decode cX1_size 1 = .ok (.getfield 34, 3) := by decide +kernel
theorem dX1_size_4 : decode cX1_size 4 = .ok (.ireturn, 1) := by decide +kernel
theorem dX1_isFull_0 : decode cX1_isFull 0 = .ok (.aload_n 0, 1) := by decide +kernel
theorem dX1_isFull_1 : decode cX1_isFull 1 = .ok (.getfield 34, 3) := by decide +kernel
theorem dX1_isFull_4 : decode cX1_isFull 4 = .ok (.bipush 20, 2) := by decide +kernel
theorem dX1_isFull_6 : decode cX1_isFull 6 = .ok (.if_icmp .lt 7, 3) := by decide +kernel
theorem dX1_isFull_9 : decode cX1_isFull 9 = .ok (.iconst 1, 1) := by decide +kernel
theorem dX1_isFull_10 : decode cX1_isFull 10 = .ok (.goto 4, 3) := by decide +kernel
theorem dX1_isFull_13 : decode cX1_isFull 13 = .ok (.iconst 0, 1) := by decide +kernel
theorem dX1_isFull_14 : decode cX1_isFull 14 = .ok (.ireturn, 1) := by decide +kernel
theorem dX1_has_0 : decode cX1_has 0 = .ok (.iload_n 1, 1) := by decide +kernel
theorem dX1_has_1 : decode cX1_has 1 = .ok (.ifCond .lt 15, 3) := by decide +kernel
theorem dX1_has_4 : decode cX1_has 4 = .ok (.iload_n 1, 1) := by decide +kernel
theorem dX1_has_5 : decode cX1_has 5 = .ok (.aload_n 0, 1) := by decide +kernel
theorem dX1_has_6 : decode cX1_has 6 = .ok (.getfield 34, 3) := by decide +kernel
theorem dX1_has_9 : decode cX1_has 9 = .ok (.if_icmp .ge 7, 3) := by decide +kernel
theorem dX1_has_12 : decode cX1_has 12 = .ok (.iconst 1, 1) := by decide +kernel
theorem dX1_has_13 : decode cX1_has 13 = .ok (.goto 4, 3) := by decide +kernel
theorem dX1_has_16 : decode cX1_has 16 = .ok (.iconst 0, 1) := by decide +kernel
theorem dX1_has_17 : decode cX1_has 17 = .ok (.ireturn, 1) := by decide +kernel
theorem dX1_add_0 : decode cX1_add 0 = .ok (.aload_n 0, 1) := by decide +kernel
theorem dX1_add_1 : decode cX1_add 1 = .ok (.getfield 9, 3) := by decide +kernel
theorem dX1_add_4 : decode cX1_add 4 = .ok (.aload_n 0, 1) := by decide +kernel
theorem dX1_add_5 : decode cX1_add 5 = .ok (.getfield 34, 3) := by decide +kernel
theorem dX1_add_8 : decode cX1_add 8 = .ok (.iload_n 1, 1) := by decide +kernel
theorem dX1_add_9 : decode cX1_add 9 = .ok (.iastore, 1) := by decide +kernel
theorem dX1_add_10 : decode cX1_add 10 = .ok (.aload_n 0, 1) := by decide +kernel
theorem dX1_add_11 : decode cX1_add 11 = .ok (.getfield 15, 3) := by decide +kernel
theorem dX1_add_14 : decode cX1_add 14 = .ok (.aload_n 0, 1) := by decide +kernel
theorem dX1_add_15 : decode cX1_add 15 = .ok (.getfield 34, 3) := by decide +kernel
theorem dX1_add_18 : decode cX1_add 18 = .ok (.iload_n 2, 1) := by decide +kernel
theorem dX1_add_19 : decode cX1_add 19 = .ok (.iastore, 1) := by decide +kernel
theorem dX1_add_20 : decode cX1_add 20 = .ok (.aload_n 0, 1) := by decide +kernel
theorem dX1_add_21 : decode cX1_add 21 = .ok (.getfield 18, 3) := by decide +kernel
theorem dX1_add_24 : decode cX1_add 24 = .ok (.aload_n 0, 1) := by decide +kernel
theorem dX1_add_25 : decode cX1_add 25 = .ok (.getfield 34, 3) := by decide +kernel
theorem dX1_add_28 : decode cX1_add 28 = .ok (.iload_n 3, 1) := by decide +kernel
theorem dX1_add_29 : decode cX1_add 29 = .ok (.iastore, 1) := by decide +kernel
theorem dX1_add_30 : decode cX1_add 30 = .ok (.aload_n 0, 1) := by decide +kernel
theorem dX1_add_31 : decode cX1_add 31 = .ok (.getfield 21, 3) := by decide +kernel
theorem dX1_add_34 : decode cX1_add 34 = .ok (.aload_n 0, 1) := by decide +kernel
theorem dX1_add_35 : decode cX1_add 35 = .ok (.getfield 34, 3) := by decide +kernel
theorem dX1_add_38 : decode cX1_add 38 = .ok (.iload 4, 2) := by decide +kernel
theorem dX1_add_40 : decode cX1_add 40 = .ok (.iastore, 1) := by decide +kernel
theorem dX1_add_41 : decode cX1_add 41 = .ok (.aload_n 0, 1) := by decide +kernel
theorem dX1_add_42 : decode cX1_add 42 = .ok (.dup, 1) := by decide +kernel
theorem dX1_add_43 : decode cX1_add 43 = .ok (.getfield 34, 3) := by decide +kernel
theorem dX1_add_46 : decode cX1_add 46 = .ok (.dup_x1, 1) := by decide +kernel
theorem dX1_add_47 : decode cX1_add 47 = .ok (.iconst 1, 1) := by decide +kernel
theorem dX1_add_48 : decode cX1_add 48 = .ok (.iadd, 1) := by decide +kernel
theorem dX1_add_49 : decode cX1_add 49 = .ok (.putfield 34, 3) := by decide +kernel
theorem dX1_add_52 : decode cX1_add 52 = .ok (.ireturn, 1) := by decide +kernel
theorem dX1_shareOf_0 : decode cX1_shareOf 0 = .ok (.aload_n 0, 1) := by decide +kernel
theorem dX1_shareOf_1 : decode cX1_shareOf 1 = .ok (.iload_n 1, 1) := by decide +kernel
theorem dX1_shareOf_2 : decode cX1_shareOf 2 = .ok (.invokevirtual 42, 3) := by decide +kernel
theorem dX1_shareOf_5 : decode cX1_shareOf 5 = .ok (.istore_n 3, 1) := by decide +kernel
theorem dX1_shareOf_6 : decode cX1_shareOf 6 = .ok (.aload_n 0, 1) := by decide +kernel
theorem dX1_shareOf_7 : decode cX1_shareOf 7 = .ok (.getfield 30, 3) := by decide +kernel
theorem dX1_shareOf_10 : decode cX1_shareOf 10 = .ok (.aload_n 0, 1) := by decide +kernel
theorem dX1_shareOf_11 : decode cX1_shareOf 11 = .ok (.getfield 24, 3) := by decide +kernel
theorem dX1_shareOf_14 : decode cX1_shareOf 14 = .ok (.iload_n 2, 1) := by decide +kernel
theorem dX1_shareOf_15 : decode cX1_shareOf 15 = .ok (.iaload, 1) := by decide +kernel
theorem dX1_shareOf_16 : decode cX1_shareOf 16 = .ok (.i2l, 1) := by decide +kernel
theorem dX1_shareOf_17 : decode cX1_shareOf 17 = .ok (.iload_n 3, 1) := by decide +kernel
theorem dX1_shareOf_18 : decode cX1_shareOf 18 = .ok (.i2l, 1) := by decide +kernel
theorem dX1_shareOf_19 : decode cX1_shareOf 19 = .ok (.invokevirtual 46, 3) := by decide +kernel
theorem dX1_shareOf_22 : decode cX1_shareOf 22 = .ok (.aload_n 0, 1) := by decide +kernel
theorem dX1_shareOf_23 : decode cX1_shareOf 23 = .ok (.getfield 30, 3) := by decide +kernel
theorem dX1_shareOf_26 : decode cX1_shareOf 26 = .ok (.areturn, 1) := by decide +kernel
theorem dX1_kitchenOf_0 : decode cX1_kitchenOf 0 = .ok (.aload_n 0, 1) := by decide +kernel
theorem dX1_kitchenOf_1 : decode cX1_kitchenOf 1 = .ok (.iload_n 1, 1) := by decide +kernel
theorem dX1_kitchenOf_2 : decode cX1_kitchenOf 2 = .ok (.invokevirtual 42, 3) := by decide +kernel
theorem dX1_kitchenOf_5 : decode cX1_kitchenOf 5 = .ok (.istore_n 2, 1) := by decide +kernel
theorem dX1_kitchenOf_6 : decode cX1_kitchenOf 6 = .ok (.iconst 0, 1) := by decide +kernel
theorem dX1_kitchenOf_7 : decode cX1_kitchenOf 7 = .ok (.istore_n 3, 1) := by decide +kernel
theorem dX1_kitchenOf_8 : decode cX1_kitchenOf 8 = .ok (.iload_n 3, 1) := by decide +kernel
theorem dX1_kitchenOf_9 : decode cX1_kitchenOf 9 = .ok (.aload_n 0, 1) := by decide +kernel
theorem dX1_kitchenOf_10 : decode cX1_kitchenOf 10 = .ok (.getfield 38, 3) := by decide +kernel
theorem dX1_kitchenOf_13 : decode cX1_kitchenOf 13 = .ok (.invokevirtual 50, 3) := by decide +kernel
theorem dX1_kitchenOf_16 : decode cX1_kitchenOf 16 = .ok (.if_icmp .ge 23, 3) := by decide +kernel
theorem dX1_kitchenOf_19 : decode cX1_kitchenOf 19 = .ok (.iconst 2, 1) := by decide +kernel
theorem dX1_kitchenOf_20 : decode cX1_kitchenOf 20 = .ok (.aload_n 0, 1) := by decide +kernel
theorem dX1_kitchenOf_21 : decode cX1_kitchenOf 21 = .ok (.getfield 24, 3) := by decide +kernel
theorem dX1_kitchenOf_24 : decode cX1_kitchenOf 24 = .ok (.iload_n 3, 1) := by decide +kernel
theorem dX1_kitchenOf_25 : decode cX1_kitchenOf 25 = .ok (.iaload, 1) := by decide +kernel
theorem dX1_kitchenOf_26 : decode cX1_kitchenOf 26 = .ok (.imul, 1) := by decide +kernel
theorem dX1_kitchenOf_27 : decode cX1_kitchenOf 27 = .ok (.iload_n 2, 1) := by decide +kernel
theorem dX1_kitchenOf_28 : decode cX1_kitchenOf 28 = .ok (.if_icmp .le 5, 3) := by decide +kernel
theorem dX1_kitchenOf_31 : decode cX1_kitchenOf 31 = .ok (.iload_n 3, 1) := by decide +kernel
theorem dX1_kitchenOf_32 : decode cX1_kitchenOf 32 = .ok (.ireturn, 1) := by decide +kernel
theorem dX1_kitchenOf_33 : decode cX1_kitchenOf 33 = .ok (.iinc 3 1, 3) := by decide +kernel
theorem dX1_kitchenOf_36 : decode cX1_kitchenOf 36 = .ok (.goto (-28), 3) := by decide +kernel
theorem dX1_kitchenOf_39 : decode cX1_kitchenOf 39 = .ok (.bipush (-9), 2) := by decide +kernel
theorem dX1_kitchenOf_41 : decode cX1_kitchenOf 41 = .ok (.ireturn, 1) := by decide +kernel
theorem dX1_joinedSize_0 : decode cX1_joinedSize 0 = .ok (.iconst 0, 1) := by decide +kernel
theorem dX1_joinedSize_1 : decode cX1_joinedSize 1 = .ok (.istore_n 1, 1) := by decide +kernel
theorem dX1_joinedSize_2 : decode cX1_joinedSize 2 = .ok (.iconst 0, 1) := by decide +kernel
theorem dX1_joinedSize_3 : decode cX1_joinedSize 3 = .ok (.istore_n 2, 1) := by decide +kernel
theorem dX1_joinedSize_4 : decode cX1_joinedSize 4 = .ok (.iload_n 2, 1) := by decide +kernel
theorem dX1_joinedSize_5 : decode cX1_joinedSize 5 = .ok (.aload_n 0, 1) := by decide +kernel
theorem dX1_joinedSize_6 : decode cX1_joinedSize 6 = .ok (.getfield 34, 3) := by decide +kernel
theorem dX1_joinedSize_9 : decode cX1_joinedSize 9 = .ok (.if_icmp .ge 22, 3) := by decide +kernel
theorem dX1_joinedSize_12 : decode cX1_joinedSize 12 = .ok (.aload_n 0, 1) := by decide +kernel
theorem dX1_joinedSize_13 : decode cX1_joinedSize 13 = .ok (.iload_n 2, 1) := by decide +kernel
theorem dX1_joinedSize_14 : decode cX1_joinedSize 14 = .ok (.invokevirtual 55, 3) := by decide +kernel
theorem dX1_joinedSize_17 : decode cX1_joinedSize 17 = .ok (.bipush (-9), 2) := by decide +kernel
theorem dX1_joinedSize_19 : decode cX1_joinedSize 19 = .ok (.if_icmp .eq 6, 3) := by decide +kernel
theorem dX1_joinedSize_22 : decode cX1_joinedSize 22 = .ok (.iinc 1 1, 3) := by decide +kernel
theorem dX1_joinedSize_25 : decode cX1_joinedSize 25 = .ok (.iinc 2 1, 3) := by decide +kernel
theorem dX1_joinedSize_28 : decode cX1_joinedSize 28 = .ok (.goto (-24), 3) := by decide +kernel
theorem dX1_joinedSize_31 : decode cX1_joinedSize 31 = .ok (.iload_n 1, 1) := by decide +kernel
theorem dX1_joinedSize_32 : decode cX1_joinedSize 32 = .ok (.ireturn, 1) := by decide +kernel
theorem dX1_weighAll_0 : decode cX1_weighAll 0 = .ok (.iconst 0, 1) := by decide +kernel
theorem dX1_weighAll_1 : decode cX1_weighAll 1 = .ok (.istore_n 2, 1) := by decide +kernel
theorem dX1_weighAll_2 : decode cX1_weighAll 2 = .ok (.iconst 0, 1) := by decide +kernel
theorem dX1_weighAll_3 : decode cX1_weighAll 3 = .ok (.istore_n 3, 1) := by decide +kernel
theorem dX1_weighAll_4 : decode cX1_weighAll 4 = .ok (.iload_n 3, 1) := by decide +kernel
theorem dX1_weighAll_5 : decode cX1_weighAll 5 = .ok (.aload_n 0, 1) := by decide +kernel
theorem dX1_weighAll_6 : decode cX1_weighAll 6 = .ok (.getfield 38, 3) := by decide +kernel
theorem dX1_weighAll_9 : decode cX1_weighAll 9 = .ok (.invokevirtual 50, 3) := by decide +kernel
theorem dX1_weighAll_12 : decode cX1_weighAll 12 = .ok (.if_icmp .ge 30, 3) := by decide +kernel
theorem dX1_weighAll_15 : decode cX1_weighAll 15 = .ok (.aload_n 0, 1) := by decide +kernel
theorem dX1_weighAll_16 : decode cX1_weighAll 16 = .ok (.getfield 24, 3) := by decide +kernel
theorem dX1_weighAll_19 : decode cX1_weighAll 19 = .ok (.iload_n 3, 1) := by decide +kernel
theorem dX1_weighAll_20 : decode cX1_weighAll 20 = .ok (.aload_n 0, 1) := by decide +kernel
theorem dX1_weighAll_21 : decode cX1_weighAll 21 = .ok (.iload_n 1, 1) := by decide +kernel
theorem dX1_weighAll_22 : decode cX1_weighAll 22 = .ok (.iload_n 3, 1) := by decide +kernel
theorem dX1_weighAll_23 : decode cX1_weighAll 23 = .ok (.invokevirtual 58, 3) := by decide +kernel
theorem dX1_weighAll_26 : decode cX1_weighAll 26 = .ok (.iastore, 1) := by decide +kernel
theorem dX1_weighAll_27 : decode cX1_weighAll 27 = .ok (.iload_n 2, 1) := by decide +kernel
theorem dX1_weighAll_28 : decode cX1_weighAll 28 = .ok (.aload_n 0, 1) := by decide +kernel
theorem dX1_weighAll_29 : decode cX1_weighAll 29 = .ok (.getfield 24, 3) := by decide +kernel
theorem dX1_weighAll_32 : decode cX1_weighAll 32 = .ok (.iload_n 3, 1) := by decide +kernel
theorem dX1_weighAll_33 : decode cX1_weighAll 33 = .ok (.iaload, 1) := by decide +kernel
theorem dX1_weighAll_34 : decode cX1_weighAll 34 = .ok (.iadd, 1) := by decide +kernel
theorem dX1_weighAll_35 : decode cX1_weighAll 35 = .ok (.istore_n 2, 1) := by decide +kernel
theorem dX1_weighAll_36 : decode cX1_weighAll 36 = .ok (.iinc 3 1, 3) := by decide +kernel
theorem dX1_weighAll_39 : decode cX1_weighAll 39 = .ok (.goto (-35), 3) := by decide +kernel
theorem dX1_weighAll_42 : decode cX1_weighAll 42 = .ok (.iload_n 2, 1) := by decide +kernel
theorem dX1_weighAll_43 : decode cX1_weighAll 43 = .ok (.ireturn, 1) := by decide +kernel
theorem dX1_weightOf_0 : decode cX1_weightOf 0 = .ok (.aload_n 0, 1) := by decide +kernel
theorem dX1_weightOf_1 : decode cX1_weightOf 1 = .ok (.getfield 38, 3) := by decide +kernel
theorem dX1_weightOf_4 : decode cX1_weightOf 4 = .ok (.iload_n 2, 1) := by decide +kernel
theorem dX1_weightOf_5 : decode cX1_weightOf 5 = .ok (.aload_n 0, 1) := by decide +kernel
theorem dX1_weightOf_6 : decode cX1_weightOf 6 = .ok (.getfield 9, 3) := by decide +kernel
theorem dX1_weightOf_9 : decode cX1_weightOf 9 = .ok (.iload_n 1, 1) := by decide +kernel
theorem dX1_weightOf_10 : decode cX1_weightOf 10 = .ok (.iaload, 1) := by decide +kernel
theorem dX1_weightOf_11 : decode cX1_weightOf 11 = .ok (.aload_n 0, 1) := by decide +kernel
theorem dX1_weightOf_12 : decode cX1_weightOf 12 = .ok (.getfield 21, 3) := by decide +kernel
theorem dX1_weightOf_15 : decode cX1_weightOf 15 = .ok (.iload_n 1, 1) := by decide +kernel
theorem dX1_weightOf_16 : decode cX1_weightOf 16 = .ok (.iaload, 1) := by decide +kernel
theorem dX1_weightOf_17 : decode cX1_weightOf 17 = .ok (.invokevirtual 62, 3) := by decide +kernel
theorem dX1_weightOf_20 : decode cX1_weightOf 20 = .ok (.ifCond .ne 5, 3) := by decide +kernel
theorem dX1_weightOf_23 : decode cX1_weightOf 23 = .ok (.iconst 0, 1) := by decide +kernel
theorem dX1_weightOf_24 : decode cX1_weightOf 24 = .ok (.ireturn, 1) := by decide +kernel
theorem dX1_weightOf_25 : decode cX1_weightOf 25 = .ok (.aload_n 0, 1) := by decide +kernel
theorem dX1_weightOf_26 : decode cX1_weightOf 26 = .ok (.getfield 38, 3) := by decide +kernel
theorem dX1_weightOf_29 : decode cX1_weightOf 29 = .ok (.iload_n 2, 1) := by decide +kernel
theorem dX1_weightOf_30 : decode cX1_weightOf 30 = .ok (.aload_n 0, 1) := by decide +kernel
theorem dX1_weightOf_31 : decode cX1_weightOf 31 = .ok (.getfield 15, 3) := by decide +kernel
theorem dX1_weightOf_34 : decode cX1_weightOf 34 = .ok (.iload_n 1, 1) := by decide +kernel
theorem dX1_weightOf_35 : decode cX1_weightOf 35 = .ok (.iaload, 1) := by decide +kernel
theorem dX1_weightOf_36 : decode cX1_weightOf 36 = .ok (.aload_n 0, 1) := by decide +kernel
theorem dX1_weightOf_37 : decode cX1_weightOf 37 = .ok (.getfield 18, 3) := by decide +kernel
theorem dX1_weightOf_40 : decode cX1_weightOf 40 = .ok (.iload_n 1, 1) := by decide +kernel
theorem dX1_weightOf_41 : decode cX1_weightOf 41 = .ok (.iaload, 1) := by decide +kernel
theorem dX1_weightOf_42 : decode cX1_weightOf 42 = .ok (.invokevirtual 66, 3) := by decide +kernel
theorem dX1_weightOf_45 : decode cX1_weightOf 45 = .ok (.istore_n 3, 1) := by decide +kernel
theorem dX1_weightOf_46 : decode cX1_weightOf 46 = .ok (.aload_n 0, 1) := by decide +kernel
theorem dX1_weightOf_47 : decode cX1_weightOf 47 = .ok (.getfield 38, 3) := by decide +kernel
theorem dX1_weightOf_50 : decode cX1_weightOf 50 = .ok (.iload_n 2, 1) := by decide +kernel
theorem dX1_weightOf_51 : decode cX1_weightOf 51 = .ok (.invokevirtual 70, 3) := by decide +kernel
theorem dX1_weightOf_54 : decode cX1_weightOf 54 = .ok (.iload_n 3, 1) := by decide +kernel
theorem dX1_weightOf_55 : decode cX1_weightOf 55 = .ok (.imul, 1) := by decide +kernel
theorem dX1_weightOf_56 : decode cX1_weightOf 56 = .ok (.ireturn, 1) := by decide +kernel
theorem dX2_init_0 : decode cX2_init 0 = .ok (.aload_n 0, 1) := by decide +kernel
theorem dX2_init_1 : decode cX2_init 1 = .ok (.invokespecial 1, 3) := by decide +kernel
theorem dX2_init_4 : decode cX2_init 4 = .ok (.aload_n 0, 1) := by decide +kernel
theorem dX2_init_5 : decode cX2_init 5 = .ok (.lconst 0, 1) := by decide +kernel
theorem dX2_init_6 : decode cX2_init 6 = .ok (.putfield 7, 3) := by decide +kernel
theorem dX2_init_9 : decode cX2_init 9 = .ok (.aload_n 0, 1) := by decide +kernel
theorem dX2_init_10 : decode cX2_init 10 = .ok (.lconst 1, 1) := by decide +kernel
theorem dX2_init_11 : decode cX2_init 11 = .ok (.putfield 13, 3) := by decide +kernel
theorem dX2_init_14 : decode cX2_init 14 = .ok (.return_, 1) := by decide +kernel
theorem dX2_put_0 : decode cX2_put 0 = .ok (.aload_n 0, 1) := by decide +kernel
theorem dX2_put_1 : decode cX2_put 1 = .ok (.lconst 0, 1) := by decide +kernel
theorem dX2_put_2 : decode cX2_put 2 = .ok (.putfield 7, 3) := by decide +kernel
theorem dX2_put_5 : decode cX2_put 5 = .ok (.aload_n 0, 1) := by decide +kernel
theorem dX2_put_6 : decode cX2_put 6 = .ok (.lconst 1, 1) := by decide +kernel
theorem dX2_put_7 : decode cX2_put 7 = .ok (.putfield 13, 3) := by decide +kernel
theorem dX2_put_10 : decode cX2_put 10 = .ok (.lload_n 1, 1) := by decide +kernel
theorem dX2_put_11 : decode cX2_put 11 = .ok (.invokestatic 16, 3) := by decide +kernel
theorem dX2_put_14 : decode cX2_put 14 = .ok (.lload_n 3, 1) := by decide +kernel
theorem dX2_put_15 : decode cX2_put 15 = .ok (.invokestatic 22, 3) := by decide +kernel
theorem dX2_put_18 : decode cX2_put 18 = .ok (.lstore 5, 2) := by decide +kernel
theorem dX2_put_20 : decode cX2_put 20 = .ok (.lload_n 3, 1) := by decide +kernel
theorem dX2_put_21 : decode cX2_put 21 = .ok (.lconst 0, 1) := by decide +kernel
theorem dX2_put_22 : decode cX2_put 22 = .ok (.lcmp, 1) := by decide +kernel
theorem dX2_put_23 : decode cX2_put 23 = .ok (.ifCond .le 26, 3) := by decide +kernel
theorem dX2_put_26 : decode cX2_put 26 = .ok (.lload 5, 2) := by decide +kernel
theorem dX2_put_28 : decode cX2_put 28 = .ok (.lconst 0, 1) := by decide +kernel
theorem dX2_put_29 : decode cX2_put 29 = .ok (.lcmp, 1) := by decide +kernel
theorem dX2_put_30 : decode cX2_put 30 = .ok (.ifCond .le 19, 3) := by decide +kernel
theorem dX2_put_33 : decode cX2_put 33 = .ok (.aload_n 0, 1) := by decide +kernel
theorem dX2_put_34 : decode cX2_put 34 = .ok (.lload_n 1, 1) := by decide +kernel
theorem dX2_put_35 : decode cX2_put 35 = .ok (.lload 5, 2) := by decide +kernel
theorem dX2_put_37 : decode cX2_put 37 = .ok (.ldiv, 1) := by decide +kernel
theorem dX2_put_38 : decode cX2_put 38 = .ok (.putfield 7, 3) := by decide +kernel
theorem dX2_put_41 : decode cX2_put 41 = .ok (.aload_n 0, 1) := by decide +kernel
theorem dX2_put_42 : decode cX2_put 42 = .ok (.lload_n 3, 1) := by decide +kernel
theorem dX2_put_43 : decode cX2_put 43 = .ok (.lload 5, 2) := by decide +kernel
theorem dX2_put_45 : decode cX2_put 45 = .ok (.ldiv, 1) := by decide +kernel
theorem dX2_put_46 : decode cX2_put 46 = .ok (.putfield 13, 3) := by decide +kernel
theorem dX2_put_49 : decode cX2_put 49 = .ok (.return_, 1) := by decide +kernel
theorem dX2_piece_0 : decode cX2_piece 0 = .ok (.iload_n 1, 1) := by decide +kernel
theorem dX2_piece_1 : decode cX2_piece 1 = .ok (.ifCond .ne 10, 3) := by decide +kernel
theorem dX2_piece_4 : decode cX2_piece 4 = .ok (.aload_n 0, 1) := by decide +kernel
theorem dX2_piece_5 : decode cX2_piece 5 = .ok (.getfield 7, 3) := by decide +kernel
theorem dX2_piece_8 : decode cX2_piece 8 = .ok (.goto 7, 3) := by decide +kernel
theorem dX2_piece_11 : decode cX2_piece 11 = .ok (.aload_n 0, 1) := by decide +kernel
theorem dX2_piece_12 : decode cX2_piece 12 = .ok (.getfield 13, 3) := by decide +kernel
theorem dX2_piece_15 : decode cX2_piece 15 = .ok (.lreturn, 1) := by decide +kernel
theorem dX2_commonDivisor_0 : decode cX2_commonDivisor 0 = .ok (.lload_n 0, 1) := by decide +kernel
theorem dX2_commonDivisor_1 : decode cX2_commonDivisor 1 = .ok (.lstore 4, 2) := by decide +kernel
theorem dX2_commonDivisor_3 : decode cX2_commonDivisor 3 = .ok (.lload_n 2, 1) := by decide +kernel
theorem dX2_commonDivisor_4 : decode cX2_commonDivisor 4 = .ok (.lstore 6, 2) := by decide +kernel
theorem dX2_commonDivisor_6 : decode cX2_commonDivisor 6 = .ok (.iconst 0, 1) := by decide +kernel
theorem dX2_commonDivisor_7 : decode cX2_commonDivisor 7 = .ok (.istore 8, 2) := by decide +kernel
theorem dX2_commonDivisor_9 : decode cX2_commonDivisor 9 = .ok (.iload 8, 2) := by decide +kernel
theorem dX2_commonDivisor_11 : decode cX2_commonDivisor 11 = .ok (.bipush 100, 2) := by decide +kernel
theorem dX2_commonDivisor_13 : decode cX2_commonDivisor 13 = .ok (.if_icmp .ge 31, 3) := by decide +kernel
theorem dX2_commonDivisor_16 : decode cX2_commonDivisor 16 = .ok (.lload 6, 2) := by decide +kernel
theorem dX2_commonDivisor_18 : decode cX2_commonDivisor 18 = .ok (.lconst 0, 1) := by decide +kernel
theorem dX2_commonDivisor_19 : decode cX2_commonDivisor 19 = .ok (.lcmp, 1) := by decide +kernel
theorem dX2_commonDivisor_20 : decode cX2_commonDivisor 20 = .ok (.ifCond .eq 24, 3) := by decide +kernel
theorem dX2_commonDivisor_23 : decode cX2_commonDivisor 23 = .ok (.lload 4, 2) := by decide +kernel
theorem dX2_commonDivisor_25 : decode cX2_commonDivisor 25 = .ok (.lload 6, 2) := by decide +kernel
theorem dX2_commonDivisor_27 : decode cX2_commonDivisor 27 = .ok (.lrem, 1) := by decide +kernel
theorem dX2_commonDivisor_28 : decode cX2_commonDivisor 28 = .ok (.lstore 9, 2) := by decide +kernel
theorem dX2_commonDivisor_30 : decode cX2_commonDivisor 30 = .ok (.lload 6, 2) := by decide +kernel
theorem dX2_commonDivisor_32 : decode cX2_commonDivisor 32 = .ok (.lstore 4, 2) := by decide +kernel
theorem dX2_commonDivisor_34 : decode cX2_commonDivisor 34 = .ok (.lload 9, 2) := by decide +kernel
theorem dX2_commonDivisor_36 : decode cX2_commonDivisor 36 = .ok (.lstore 6, 2) := by decide +kernel
theorem dX2_commonDivisor_38 : decode cX2_commonDivisor 38 = .ok (.iinc 8 1, 3) := by decide +kernel
theorem dX2_commonDivisor_41 : decode cX2_commonDivisor 41 = .ok (.goto (-32), 3) := by decide +kernel
theorem dX2_commonDivisor_44 : decode cX2_commonDivisor 44 = .ok (.lload 4, 2) := by decide +kernel
theorem dX2_commonDivisor_46 : decode cX2_commonDivisor 46 = .ok (.lreturn, 1) := by decide +kernel
theorem dX3_init_0 : decode cX3_init 0 = .ok (.aload_n 0, 1) := by decide +kernel
theorem dX3_init_1 : decode cX3_init 1 = .ok (.invokespecial 3, 3) := by decide +kernel
theorem dX3_init_4 : decode cX3_init 4 = .ok (.aload_n 0, 1) := by decide +kernel
theorem dX3_init_5 : decode cX3_init 5 = .ok (.bipush 80, 2) := by decide +kernel
theorem dX3_init_7 : decode cX3_init 7 = .ok (.newarray .int, 2) := by decide +kernel
theorem dX3_init_9 : decode cX3_init 9 = .ok (.putfield 9, 3) := by decide +kernel
theorem dX3_init_12 : decode cX3_init 12 = .ok (.aload_n 0, 1) := by decide +kernel
theorem dX3_init_13 : decode cX3_init 13 = .ok (.bipush 25, 2) := by decide +kernel
theorem dX3_init_15 : decode cX3_init 15 = .ok (.newarray .long, 2) := by decide +kernel
theorem dX3_init_17 : decode cX3_init 17 = .ok (.putfield 15, 3) := by decide +kernel
theorem dX3_init_20 : decode cX3_init 20 = .ok (.aload_n 0, 1) := by decide +kernel
theorem dX3_init_21 : decode cX3_init 21 = .ok (.iconst 5, 1) := by decide +kernel
theorem dX3_init_22 : decode cX3_init 22 = .ok (.newarray .long, 2) := by decide +kernel
theorem dX3_init_24 : decode cX3_init 24 = .ok (.putfield 19, 3) := by decide +kernel
theorem dX3_init_27 : decode cX3_init 27 = .ok (.aload_n 0, 1) := by decide +kernel
theorem dX3_init_28 : decode cX3_init 28 = .ok (.iconst 5, 1) := by decide +kernel
theorem dX3_init_29 : decode cX3_init 29 = .ok (.newarray .int, 2) := by decide +kernel
theorem dX3_init_31 : decode cX3_init 31 = .ok (.putfield 22, 3) := by decide +kernel
theorem dX3_init_34 : decode cX3_init 34 = .ok (.aload_n 0, 1) := by decide +kernel
theorem dX3_init_35 : decode cX3_init 35 = .ok (.new 25, 3) := by decide +kernel
theorem dX3_init_38 : decode cX3_init 38 = .ok (.dup, 1) := by decide +kernel
theorem dX3_init_39 : decode cX3_init 39 = .ok (.invokespecial 27, 3) := by decide +kernel
theorem dX3_init_42 : decode cX3_init 42 = .ok (.putfield 28, 3) := by decide +kernel
theorem dX3_init_45 : decode cX3_init 45 = .ok (.aload_n 0, 1) := by decide +kernel
theorem dX3_init_46 : decode cX3_init 46 = .ok (.aload_n 1, 1) := by decide +kernel
theorem dX3_init_47 : decode cX3_init 47 = .ok (.putfield 32, 3) := by decide +kernel
theorem dX3_init_50 : decode cX3_init 50 = .ok (.return_, 1) := by decide +kernel
theorem dX3_doublesNow_0 : decode cX3_doublesNow 0 = .ok (.iconst 0, 1) := by decide +kernel
theorem dX3_doublesNow_1 : decode cX3_doublesNow 1 = .ok (.istore_n 1, 1) := by decide +kernel
theorem dX3_doublesNow_2 : decode cX3_doublesNow 2 = .ok (.iconst 0, 1) := by decide +kernel
theorem dX3_doublesNow_3 : decode cX3_doublesNow 3 = .ok (.istore_n 2, 1) := by decide +kernel
theorem dX3_doublesNow_4 : decode cX3_doublesNow 4 = .ok (.iload_n 2, 1) := by decide +kernel
theorem dX3_doublesNow_5 : decode cX3_doublesNow 5 = .ok (.aload_n 0, 1) := by decide +kernel
theorem dX3_doublesNow_6 : decode cX3_doublesNow 6 = .ok (.getfield 32, 3) := by decide +kernel
theorem dX3_doublesNow_9 : decode cX3_doublesNow 9 = .ok (.invokevirtual 36, 3) := by decide +kernel
theorem dX3_doublesNow_12 : decode cX3_doublesNow 12 = .ok (.if_icmp .ge 42, 3) := by decide +kernel
theorem dX3_doublesNow_15 : decode cX3_doublesNow 15 = .ok (.iload_n 2, 1) := by decide +kernel
theorem dX3_doublesNow_16 : decode cX3_doublesNow 16 = .ok (.iconst 1, 1) := by decide +kernel
theorem dX3_doublesNow_17 : decode cX3_doublesNow 17 = .ok (.iadd, 1) := by decide +kernel
theorem dX3_doublesNow_18 : decode cX3_doublesNow 18 = .ok (.istore_n 3, 1) := by decide +kernel
theorem dX3_doublesNow_19 : decode cX3_doublesNow 19 = .ok (.iload_n 3, 1) := by decide +kernel
theorem dX3_doublesNow_20 : decode cX3_doublesNow 20 = .ok (.aload_n 0, 1) := by decide +kernel
theorem dX3_doublesNow_21 : decode cX3_doublesNow 21 = .ok (.getfield 32, 3) := by decide +kernel
theorem dX3_doublesNow_24 : decode cX3_doublesNow 24 = .ok (.invokevirtual 36, 3) := by decide +kernel
theorem dX3_doublesNow_27 : decode cX3_doublesNow 27 = .ok (.if_icmp .ge 21, 3) := by decide +kernel
theorem dX3_doublesNow_30 : decode cX3_doublesNow 30 = .ok (.aload_n 0, 1) := by decide +kernel
theorem dX3_doublesNow_31 : decode cX3_doublesNow 31 = .ok (.iload_n 2, 1) := by decide +kernel
theorem dX3_doublesNow_32 : decode cX3_doublesNow 32 = .ok (.iload_n 3, 1) := by decide +kernel
theorem dX3_doublesNow_33 : decode cX3_doublesNow 33 = .ok (.invokevirtual 42, 3) := by decide +kernel
theorem dX3_doublesNow_36 : decode cX3_doublesNow 36 = .ok (.ifCond .eq 6, 3) := by decide +kernel
theorem dX3_doublesNow_39 : decode cX3_doublesNow 39 = .ok (.iinc 1 1, 3) := by decide +kernel
theorem dX3_doublesNow_42 : decode cX3_doublesNow 42 = .ok (.iinc 3 1, 3) := by decide +kernel
theorem dX3_doublesNow_45 : decode cX3_doublesNow 45 = .ok (.goto (-26), 3) := by decide +kernel
theorem dX3_doublesNow_48 : decode cX3_doublesNow 48 = .ok (.iinc 2 1, 3) := by decide +kernel
theorem dX3_doublesNow_51 : decode cX3_doublesNow 51 = .ok (.goto (-47), 3) := by decide +kernel
theorem dX3_doublesNow_54 : decode cX3_doublesNow 54 = .ok (.iload_n 1, 1) := by decide +kernel
theorem dX3_doublesNow_55 : decode cX3_doublesNow 55 = .ok (.ireturn, 1) := by decide +kernel
theorem dX3_learn_0 : decode cX3_learn 0 = .ok (.aload_n 0, 1) := by decide +kernel
theorem dX3_learn_1 : decode cX3_learn 1 = .ok (.getfield 15, 3) := by decide +kernel
theorem dX3_learn_4 : decode cX3_learn 4 = .ok (.lconst 0, 1) := by decide +kernel
theorem dX3_learn_5 : decode cX3_learn 5 = .ok (.invokestatic 46, 3) := by decide +kernel
theorem dX3_learn_8 : decode cX3_learn 8 = .ok (.aload_n 0, 1) := by decide +kernel
theorem dX3_learn_9 : decode cX3_learn 9 = .ok (.getfield 19, 3) := by decide +kernel
theorem dX3_learn_12 : decode cX3_learn 12 = .ok (.lconst 0, 1) := by decide +kernel
theorem dX3_learn_13 : decode cX3_learn 13 = .ok (.invokestatic 46, 3) := by decide +kernel
theorem dX3_learn_16 : decode cX3_learn 16 = .ok (.aload_n 0, 1) := by decide +kernel
theorem dX3_learn_17 : decode cX3_learn 17 = .ok (.getfield 22, 3) := by decide +kernel
theorem dX3_learn_20 : decode cX3_learn 20 = .ok (.iconst 0, 1) := by decide +kernel
theorem dX3_learn_21 : decode cX3_learn 21 = .ok (.invokestatic 52, 3) := by decide +kernel
theorem dX3_learn_24 : decode cX3_learn 24 = .ok (.iconst 0, 1) := by decide +kernel
theorem dX3_learn_25 : decode cX3_learn 25 = .ok (.istore_n 1, 1) := by decide +kernel
theorem dX3_learn_26 : decode cX3_learn 26 = .ok (.iload_n 1, 1) := by decide +kernel
theorem dX3_learn_27 : decode cX3_learn 27 = .ok (.aload_n 0, 1) := by decide +kernel
theorem dX3_learn_28 : decode cX3_learn 28 = .ok (.getfield 32, 3) := by decide +kernel
theorem dX3_learn_31 : decode cX3_learn 31 = .ok (.invokevirtual 36, 3) := by decide +kernel
theorem dX3_learn_34 : decode cX3_learn 34 = .ok (.if_icmp .ge 23, 3) := by decide +kernel
theorem dX3_learn_37 : decode cX3_learn 37 = .ok (.aload_n 0, 1) := by decide +kernel
theorem dX3_learn_38 : decode cX3_learn 38 = .ok (.getfield 9, 3) := by decide +kernel
theorem dX3_learn_41 : decode cX3_learn 41 = .ok (.iload_n 1, 1) := by decide +kernel
theorem dX3_learn_42 : decode cX3_learn 42 = .ok (.aload_n 0, 1) := by decide +kernel
theorem dX3_learn_43 : decode cX3_learn 43 = .ok (.getfield 32, 3) := by decide +kernel
theorem dX3_learn_46 : decode cX3_learn 46 = .ok (.iload_n 1, 1) := by decide +kernel
theorem dX3_learn_47 : decode cX3_learn 47 = .ok (.invokevirtual 55, 3) := by decide +kernel
theorem dX3_learn_50 : decode cX3_learn 50 = .ok (.iastore, 1) := by decide +kernel
theorem dX3_learn_51 : decode cX3_learn 51 = .ok (.iinc 1 1, 3) := by decide +kernel
theorem dX3_learn_54 : decode cX3_learn 54 = .ok (.goto (-28), 3) := by decide +kernel
theorem dX3_learn_57 : decode cX3_learn 57 = .ok (.iconst 0, 1) := by decide +kernel
theorem dX3_learn_58 : decode cX3_learn 58 = .ok (.istore_n 1, 1) := by decide +kernel
theorem dX3_learn_59 : decode cX3_learn 59 = .ok (.iload_n 1, 1) := by decide +kernel
theorem dX3_learn_60 : decode cX3_learn 60 = .ok (.aload_n 0, 1) := by decide +kernel
theorem dX3_learn_61 : decode cX3_learn 61 = .ok (.getfield 32, 3) := by decide +kernel
theorem dX3_learn_64 : decode cX3_learn 64 = .ok (.invokevirtual 36, 3) := by decide +kernel
theorem dX3_learn_67 : decode cX3_learn 67 = .ok (.if_icmp .ge 51, 3) := by decide +kernel
theorem dX3_learn_70 : decode cX3_learn 70 = .ok (.iload_n 1, 1) := by decide +kernel
theorem dX3_learn_71 : decode cX3_learn 71 = .ok (.iconst 1, 1) := by decide +kernel
theorem dX3_learn_72 : decode cX3_learn 72 = .ok (.iadd, 1) := by decide +kernel
theorem dX3_learn_73 : decode cX3_learn 73 = .ok (.istore_n 2, 1) := by decide +kernel
theorem dX3_learn_74 : decode cX3_learn 74 = .ok (.iload_n 2, 1) := by decide +kernel
theorem dX3_learn_75 : decode cX3_learn 75 = .ok (.aload_n 0, 1) := by decide +kernel
theorem dX3_learn_76 : decode cX3_learn 76 = .ok (.getfield 32, 3) := by decide +kernel
theorem dX3_learn_79 : decode cX3_learn 79 = .ok (.invokevirtual 36, 3) := by decide +kernel
theorem dX3_learn_82 : decode cX3_learn 82 = .ok (.if_icmp .ge 30, 3) := by decide +kernel
theorem dX3_learn_85 : decode cX3_learn 85 = .ok (.aload_n 0, 1) := by decide +kernel
theorem dX3_learn_86 : decode cX3_learn 86 = .ok (.iload_n 1, 1) := by decide +kernel
theorem dX3_learn_87 : decode cX3_learn 87 = .ok (.iload_n 2, 1) := by decide +kernel
theorem dX3_learn_88 : decode cX3_learn 88 = .ok (.invokevirtual 42, 3) := by decide +kernel
theorem dX3_learn_91 : decode cX3_learn 91 = .ok (.ifCond .eq 15, 3) := by decide +kernel
theorem dX3_learn_94 : decode cX3_learn 94 = .ok (.aload_n 0, 1) := by decide +kernel
theorem dX3_learn_95 : decode cX3_learn 95 = .ok (.iload_n 1, 1) := by decide +kernel
theorem dX3_learn_96 : decode cX3_learn 96 = .ok (.iload_n 2, 1) := by decide +kernel
theorem dX3_learn_97 : decode cX3_learn 97 = .ok (.invokevirtual 59, 3) := by decide +kernel
theorem dX3_learn_100 : decode cX3_learn 100 = .ok (.aload_n 0, 1) := by decide +kernel
theorem dX3_learn_101 : decode cX3_learn 101 = .ok (.iload_n 2, 1) := by decide +kernel
theorem dX3_learn_102 : decode cX3_learn 102 = .ok (.iload_n 1, 1) := by decide +kernel
theorem dX3_learn_103 : decode cX3_learn 103 = .ok (.invokevirtual 59, 3) := by decide +kernel
theorem dX3_learn_106 : decode cX3_learn 106 = .ok (.iinc 2 1, 3) := by decide +kernel
theorem dX3_learn_109 : decode cX3_learn 109 = .ok (.goto (-35), 3) := by decide +kernel
theorem dX3_learn_112 : decode cX3_learn 112 = .ok (.iinc 1 1, 3) := by decide +kernel
theorem dX3_learn_115 : decode cX3_learn 115 = .ok (.goto (-56), 3) := by decide +kernel
theorem dX3_learn_118 : decode cX3_learn 118 = .ok (.aload_n 0, 1) := by decide +kernel
theorem dX3_learn_119 : decode cX3_learn 119 = .ok (.invokevirtual 63, 3) := by decide +kernel
theorem dX3_learn_122 : decode cX3_learn 122 = .ok (.iconst 0, 1) := by decide +kernel
theorem dX3_learn_123 : decode cX3_learn 123 = .ok (.istore_n 1, 1) := by decide +kernel
theorem dX3_learn_124 : decode cX3_learn 124 = .ok (.iload_n 1, 1) := by decide +kernel
theorem dX3_learn_125 : decode cX3_learn 125 = .ok (.iconst 5, 1) := by decide +kernel
theorem dX3_learn_126 : decode cX3_learn 126 = .ok (.if_icmp .ge 22, 3) := by decide +kernel
theorem dX3_learn_129 : decode cX3_learn 129 = .ok (.aload_n 0, 1) := by decide +kernel
theorem dX3_learn_130 : decode cX3_learn 130 = .ok (.iload_n 1, 1) := by decide +kernel
theorem dX3_learn_131 : decode cX3_learn 131 = .ok (.invokevirtual 66, 3) := by decide +kernel
theorem dX3_learn_134 : decode cX3_learn 134 = .ok (.ifCond .eq 8, 3) := by decide +kernel
theorem dX3_learn_137 : decode cX3_learn 137 = .ok (.aload_n 0, 1) := by decide +kernel
theorem dX3_learn_138 : decode cX3_learn 138 = .ok (.iload_n 1, 1) := by decide +kernel
theorem dX3_learn_139 : decode cX3_learn 139 = .ok (.invokevirtual 70, 3) := by decide +kernel
theorem dX3_learn_142 : decode cX3_learn 142 = .ok (.iinc 1 1, 3) := by decide +kernel
theorem dX3_learn_145 : decode cX3_learn 145 = .ok (.goto (-21), 3) := by decide +kernel
theorem dX3_learn_148 : decode cX3_learn 148 = .ok (.return_, 1) := by decide +kernel
theorem dX3_isInDouble_0 : decode cX3_isInDouble 0 = .ok (.aload_n 0, 1) := by decide +kernel
theorem dX3_isInDouble_1 : decode cX3_isInDouble 1 = .ok (.getfield 22, 3) := by decide +kernel
theorem dX3_isInDouble_4 : decode cX3_isInDouble 4 = .ok (.iload_n 1, 1) := by decide +kernel
theorem dX3_isInDouble_5 : decode cX3_isInDouble 5 = .ok (.iaload, 1) := by decide +kernel
theorem dX3_isInDouble_6 : decode cX3_isInDouble 6 = .ok (.ifCond .eq 7, 3) := by decide +kernel
theorem dX3_isInDouble_9 : decode cX3_isInDouble 9 = .ok (.iconst 1, 1) := by decide +kernel
theorem dX3_isInDouble_10 : decode cX3_isInDouble 10 = .ok (.goto 4, 3) := by decide +kernel
theorem dX3_isInDouble_13 : decode cX3_isInDouble 13 = .ok (.iconst 0, 1) := by decide +kernel
theorem dX3_isInDouble_14 : decode cX3_isInDouble 14 = .ok (.ireturn, 1) := by decide +kernel
theorem dX3_habitOf_0 : decode cX3_habitOf 0 = .ok (.aload_n 0, 1) := by decide +kernel
theorem dX3_habitOf_1 : decode cX3_habitOf 1 = .ok (.getfield 28, 3) := by decide +kernel
theorem dX3_habitOf_4 : decode cX3_habitOf 4 = .ok (.aload_n 0, 1) := by decide +kernel
theorem dX3_habitOf_5 : decode cX3_habitOf 5 = .ok (.getfield 15, 3) := by decide +kernel
theorem dX3_habitOf_8 : decode cX3_habitOf 8 = .ok (.aload_n 0, 1) := by decide +kernel
theorem dX3_habitOf_9 : decode cX3_habitOf 9 = .ok (.getfield 19, 3) := by decide +kernel
theorem dX3_habitOf_12 : decode cX3_habitOf 12 = .ok (.iload_n 1, 1) := by decide +kernel
theorem dX3_habitOf_13 : decode cX3_habitOf 13 = .ok (.iconst 0, 1) := by decide +kernel
theorem dX3_habitOf_14 : decode cX3_habitOf 14 = .ok (.iconst 0, 1) := by decide +kernel
theorem dX3_habitOf_15 : decode cX3_habitOf 15 = .ok (.invokestatic 74, 3) := by decide +kernel
theorem dX3_habitOf_18 : decode cX3_habitOf 18 = .ok (.aload_n 0, 1) := by decide +kernel
theorem dX3_habitOf_19 : decode cX3_habitOf 19 = .ok (.getfield 15, 3) := by decide +kernel
theorem dX3_habitOf_22 : decode cX3_habitOf 22 = .ok (.aload_n 0, 1) := by decide +kernel
theorem dX3_habitOf_23 : decode cX3_habitOf 23 = .ok (.getfield 19, 3) := by decide +kernel
theorem dX3_habitOf_26 : decode cX3_habitOf 26 = .ok (.iconst (-1), 1) := by decide +kernel
theorem dX3_habitOf_27 : decode cX3_habitOf 27 = .ok (.iconst 0, 1) := by decide +kernel
theorem dX3_habitOf_28 : decode cX3_habitOf 28 = .ok (.iconst 0, 1) := by decide +kernel
theorem dX3_habitOf_29 : decode cX3_habitOf 29 = .ok (.invokestatic 74, 3) := by decide +kernel
theorem dX3_habitOf_32 : decode cX3_habitOf 32 = .ok (.invokevirtual 78, 3) := by decide +kernel
theorem dX3_habitOf_35 : decode cX3_habitOf 35 = .ok (.aload_n 0, 1) := by decide +kernel
theorem dX3_habitOf_36 : decode cX3_habitOf 36 = .ok (.getfield 28, 3) := by decide +kernel
theorem dX3_habitOf_39 : decode cX3_habitOf 39 = .ok (.areturn, 1) := by decide +kernel
theorem dX3_isDouble_0 : decode cX3_isDouble 0 = .ok (.aload_n 0, 1) := by decide +kernel
theorem dX3_isDouble_1 : decode cX3_isDouble 1 = .ok (.getfield 32, 3) := by decide +kernel
theorem dX3_isDouble_4 : decode cX3_isDouble 4 = .ok (.iload_n 1, 1) := by decide +kernel
theorem dX3_isDouble_5 : decode cX3_isDouble 5 = .ok (.invokevirtual 82, 3) := by decide +kernel
theorem dX3_isDouble_8 : decode cX3_isDouble 8 = .ok (.aload_n 0, 1) := by decide +kernel
theorem dX3_isDouble_9 : decode cX3_isDouble 9 = .ok (.getfield 32, 3) := by decide +kernel
theorem dX3_isDouble_12 : decode cX3_isDouble 12 = .ok (.iload_n 2, 1) := by decide +kernel
theorem dX3_isDouble_13 : decode cX3_isDouble 13 = .ok (.invokevirtual 82, 3) := by decide +kernel
theorem dX3_isDouble_16 : decode cX3_isDouble 16 = .ok (.if_icmp .ne 67, 3) := by decide +kernel
theorem dX3_isDouble_19 : decode cX3_isDouble 19 = .ok (.aload_n 0, 1) := by decide +kernel
theorem dX3_isDouble_20 : decode cX3_isDouble 20 = .ok (.getfield 32, 3) := by decide +kernel
theorem dX3_isDouble_23 : decode cX3_isDouble 23 = .ok (.iload_n 1, 1) := by decide +kernel
theorem dX3_isDouble_24 : decode cX3_isDouble 24 = .ok (.invokevirtual 85, 3) := by decide +kernel
theorem dX3_isDouble_27 : decode cX3_isDouble 27 = .ok (.aload_n 0, 1) := by decide +kernel
theorem dX3_isDouble_28 : decode cX3_isDouble 28 = .ok (.getfield 32, 3) := by decide +kernel
theorem dX3_isDouble_31 : decode cX3_isDouble 31 = .ok (.iload_n 2, 1) := by decide +kernel
theorem dX3_isDouble_32 : decode cX3_isDouble 32 = .ok (.invokevirtual 85, 3) := by decide +kernel
theorem dX3_isDouble_35 : decode cX3_isDouble 35 = .ok (.if_icmp .ne 48, 3) := by decide +kernel
theorem dX3_isDouble_38 : decode cX3_isDouble 38 = .ok (.aload_n 0, 1) := by decide +kernel
theorem dX3_isDouble_39 : decode cX3_isDouble 39 = .ok (.getfield 32, 3) := by decide +kernel
theorem dX3_isDouble_42 : decode cX3_isDouble 42 = .ok (.iload_n 1, 1) := by decide +kernel
theorem dX3_isDouble_43 : decode cX3_isDouble 43 = .ok (.invokevirtual 88, 3) := by decide +kernel
theorem dX3_isDouble_46 : decode cX3_isDouble 46 = .ok (.aload_n 0, 1) := by decide +kernel
theorem dX3_isDouble_47 : decode cX3_isDouble 47 = .ok (.getfield 32, 3) := by decide +kernel
theorem dX3_isDouble_50 : decode cX3_isDouble 50 = .ok (.iload_n 2, 1) := by decide +kernel
theorem dX3_isDouble_51 : decode cX3_isDouble 51 = .ok (.invokevirtual 88, 3) := by decide +kernel
theorem dX3_isDouble_54 : decode cX3_isDouble 54 = .ok (.if_icmp .eq 29, 3) := by decide +kernel
theorem dX3_isDouble_57 : decode cX3_isDouble 57 = .ok (.aload_n 0, 1) := by decide +kernel
theorem dX3_isDouble_58 : decode cX3_isDouble 58 = .ok (.getfield 32, 3) := by decide +kernel
theorem dX3_isDouble_61 : decode cX3_isDouble 61 = .ok (.iload_n 1, 1) := by decide +kernel
theorem dX3_isDouble_62 : decode cX3_isDouble 62 = .ok (.invokevirtual 91, 3) := by decide +kernel
theorem dX3_isDouble_65 : decode cX3_isDouble 65 = .ok (.ifCond .ne 18, 3) := by decide +kernel
theorem dX3_isDouble_68 : decode cX3_isDouble 68 = .ok (.aload_n 0, 1) := by decide +kernel
theorem dX3_isDouble_69 : decode cX3_isDouble 69 = .ok (.getfield 32, 3) := by decide +kernel
theorem dX3_isDouble_72 : decode cX3_isDouble 72 = .ok (.iload_n 2, 1) := by decide +kernel
theorem dX3_isDouble_73 : decode cX3_isDouble 73 = .ok (.invokevirtual 91, 3) := by decide +kernel
theorem dX3_isDouble_76 : decode cX3_isDouble 76 = .ok (.ifCond .ne 7, 3) := by decide +kernel
theorem dX3_isDouble_79 : decode cX3_isDouble 79 = .ok (.iconst 1, 1) := by decide +kernel
theorem dX3_isDouble_80 : decode cX3_isDouble 80 = .ok (.goto 4, 3) := by decide +kernel
theorem dX3_isDouble_83 : decode cX3_isDouble 83 = .ok (.iconst 0, 1) := by decide +kernel
theorem dX3_isDouble_84 : decode cX3_isDouble 84 = .ok (.ireturn, 1) := by decide +kernel
theorem dX3_addDouble_0 : decode cX3_addDouble 0 = .ok (.aload_n 0, 1) := by decide +kernel
theorem dX3_addDouble_1 : decode cX3_addDouble 1 = .ok (.getfield 32, 3) := by decide +kernel
theorem dX3_addDouble_4 : decode cX3_addDouble 4 = .ok (.iload_n 1, 1) := by decide +kernel
theorem dX3_addDouble_5 : decode cX3_addDouble 5 = .ok (.invokevirtual 88, 3) := by decide +kernel
theorem dX3_addDouble_8 : decode cX3_addDouble 8 = .ok (.istore_n 3, 1) := by decide +kernel
theorem dX3_addDouble_9 : decode cX3_addDouble 9 = .ok (.aload_n 0, 1) := by decide +kernel
theorem dX3_addDouble_10 : decode cX3_addDouble 10 = .ok (.getfield 32, 3) := by decide +kernel
theorem dX3_addDouble_13 : decode cX3_addDouble 13 = .ok (.iload_n 2, 1) := by decide +kernel
theorem dX3_addDouble_14 : decode cX3_addDouble 14 = .ok (.invokevirtual 88, 3) := by decide +kernel
theorem dX3_addDouble_17 : decode cX3_addDouble 17 = .ok (.istore 4, 2) := by decide +kernel
theorem dX3_addDouble_19 : decode cX3_addDouble 19 = .ok (.aload_n 0, 1) := by decide +kernel
theorem dX3_addDouble_20 : decode cX3_addDouble 20 = .ok (.getfield 15, 3) := by decide +kernel
theorem dX3_addDouble_23 : decode cX3_addDouble 23 = .ok (.iload_n 3, 1) := by decide +kernel
theorem dX3_addDouble_24 : decode cX3_addDouble 24 = .ok (.iconst 5, 1) := by decide +kernel
theorem dX3_addDouble_25 : decode cX3_addDouble 25 = .ok (.imul, 1) := by decide +kernel
theorem dX3_addDouble_26 : decode cX3_addDouble 26 = .ok (.iload_n 3, 1) := by decide +kernel
theorem dX3_addDouble_27 : decode cX3_addDouble 27 = .ok (.iadd, 1) := by decide +kernel
theorem dX3_addDouble_28 : decode cX3_addDouble 28 = .ok (.dup2, 1) := by decide +kernel
theorem dX3_addDouble_29 : decode cX3_addDouble 29 = .ok (.laload, 1) := by decide +kernel
theorem dX3_addDouble_30 : decode cX3_addDouble 30 = .ok (.lconst 1, 1) := by decide +kernel
theorem dX3_addDouble_31 : decode cX3_addDouble 31 = .ok (.ladd, 1) := by decide +kernel
theorem dX3_addDouble_32 : decode cX3_addDouble 32 = .ok (.lastore, 1) := by decide +kernel
theorem dX3_addDouble_33 : decode cX3_addDouble 33 = .ok (.aload_n 0, 1) := by decide +kernel
theorem dX3_addDouble_34 : decode cX3_addDouble 34 = .ok (.getfield 15, 3) := by decide +kernel
theorem dX3_addDouble_37 : decode cX3_addDouble 37 = .ok (.iload_n 3, 1) := by decide +kernel
theorem dX3_addDouble_38 : decode cX3_addDouble 38 = .ok (.iconst 5, 1) := by decide +kernel
theorem dX3_addDouble_39 : decode cX3_addDouble 39 = .ok (.imul, 1) := by decide +kernel
theorem dX3_addDouble_40 : decode cX3_addDouble 40 = .ok (.iload 4, 2) := by decide +kernel
theorem dX3_addDouble_42 : decode cX3_addDouble 42 = .ok (.iadd, 1) := by decide +kernel
theorem dX3_addDouble_43 : decode cX3_addDouble 43 = .ok (.dup2, 1) := by decide +kernel
theorem dX3_addDouble_44 : decode cX3_addDouble 44 = .ok (.laload, 1) := by decide +kernel
theorem dX3_addDouble_45 : decode cX3_addDouble 45 = .ok (.lconst 1, 1) := by decide +kernel
theorem dX3_addDouble_46 : decode cX3_addDouble 46 = .ok (.lsub, 1) := by decide +kernel
theorem dX3_addDouble_47 : decode cX3_addDouble 47 = .ok (.lastore, 1) := by decide +kernel
theorem dX3_addDouble_48 : decode cX3_addDouble 48 = .ok (.aload_n 0, 1) := by decide +kernel
theorem dX3_addDouble_49 : decode cX3_addDouble 49 = .ok (.getfield 19, 3) := by decide +kernel
theorem dX3_addDouble_52 : decode cX3_addDouble 52 = .ok (.iload_n 3, 1) := by decide +kernel
theorem dX3_addDouble_53 : decode cX3_addDouble 53 = .ok (.dup2, 1) := by decide +kernel
theorem dX3_addDouble_54 : decode cX3_addDouble 54 = .ok (.laload, 1) := by decide +kernel
theorem dX3_addDouble_55 : decode cX3_addDouble 55 = .ok (.aload_n 0, 1) := by decide +kernel
theorem dX3_addDouble_56 : decode cX3_addDouble 56 = .ok (.getfield 9, 3) := by decide +kernel
theorem dX3_addDouble_59 : decode cX3_addDouble 59 = .ok (.iload_n 1, 1) := by decide +kernel
theorem dX3_addDouble_60 : decode cX3_addDouble 60 = .ok (.iaload, 1) := by decide +kernel
theorem dX3_addDouble_61 : decode cX3_addDouble 61 = .ok (.aload_n 0, 1) := by decide +kernel
theorem dX3_addDouble_62 : decode cX3_addDouble 62 = .ok (.getfield 9, 3) := by decide +kernel
theorem dX3_addDouble_65 : decode cX3_addDouble 65 = .ok (.iload_n 2, 1) := by decide +kernel
theorem dX3_addDouble_66 : decode cX3_addDouble 66 = .ok (.iaload, 1) := by decide +kernel
theorem dX3_addDouble_67 : decode cX3_addDouble 67 = .ok (.isub, 1) := by decide +kernel
theorem dX3_addDouble_68 : decode cX3_addDouble 68 = .ok (.i2l, 1) := by decide +kernel
theorem dX3_addDouble_69 : decode cX3_addDouble 69 = .ok (.ladd, 1) := by decide +kernel
theorem dX3_addDouble_70 : decode cX3_addDouble 70 = .ok (.lastore, 1) := by decide +kernel
theorem dX3_addDouble_71 : decode cX3_addDouble 71 = .ok (.aload_n 0, 1) := by decide +kernel
theorem dX3_addDouble_72 : decode cX3_addDouble 72 = .ok (.getfield 22, 3) := by decide +kernel
theorem dX3_addDouble_75 : decode cX3_addDouble 75 = .ok (.iload_n 3, 1) := by decide +kernel
theorem dX3_addDouble_76 : decode cX3_addDouble 76 = .ok (.dup2, 1) := by decide +kernel
theorem dX3_addDouble_77 : decode cX3_addDouble 77 = .ok (.iaload, 1) := by decide +kernel
theorem dX3_addDouble_78 : decode cX3_addDouble 78 = .ok (.iconst 1, 1) := by decide +kernel
theorem dX3_addDouble_79 : decode cX3_addDouble 79 = .ok (.iload 4, 2) := by decide +kernel
theorem dX3_addDouble_81 : decode cX3_addDouble 81 = .ok (.ishl, 1) := by decide +kernel
theorem dX3_addDouble_82 : decode cX3_addDouble 82 = .ok (.ior, 1) := by decide +kernel
theorem dX3_addDouble_83 : decode cX3_addDouble 83 = .ok (.iastore, 1) := by decide +kernel
theorem dX3_addDouble_84 : decode cX3_addDouble 84 = .ok (.return_, 1) := by decide +kernel
theorem dX3_spreadJoins_0 : decode cX3_spreadJoins 0 = .ok (.iconst 0, 1) := by decide +kernel
theorem dX3_spreadJoins_1 : decode cX3_spreadJoins 1 = .ok (.istore_n 1, 1) := by decide +kernel
theorem dX3_spreadJoins_2 : decode cX3_spreadJoins 2 = .ok (.iload_n 1, 1) := by decide +kernel
theorem dX3_spreadJoins_3 : decode cX3_spreadJoins 3 = .ok (.iconst 5, 1) := by decide +kernel
theorem dX3_spreadJoins_4 : decode cX3_spreadJoins 4 = .ok (.if_icmp .ge 50, 3) := by decide +kernel
theorem dX3_spreadJoins_7 : decode cX3_spreadJoins 7 = .ok (.iconst 0, 1) := by decide +kernel
theorem dX3_spreadJoins_8 : decode cX3_spreadJoins 8 = .ok (.istore_n 2, 1) := by decide +kernel
theorem dX3_spreadJoins_9 : decode cX3_spreadJoins 9 = .ok (.iload_n 2, 1) := by decide +kernel
theorem dX3_spreadJoins_10 : decode cX3_spreadJoins 10 = .ok (.iconst 5, 1) := by decide +kernel
theorem dX3_spreadJoins_11 : decode cX3_spreadJoins 11 = .ok (.if_icmp .ge 37, 3) := by decide +kernel
theorem dX3_spreadJoins_14 : decode cX3_spreadJoins 14 = .ok (.aload_n 0, 1) := by decide +kernel
theorem dX3_spreadJoins_15 : decode cX3_spreadJoins 15 = .ok (.getfield 22, 3) := by decide +kernel
theorem dX3_spreadJoins_18 : decode cX3_spreadJoins 18 = .ok (.iload_n 2, 1) := by decide +kernel
theorem dX3_spreadJoins_19 : decode cX3_spreadJoins 19 = .ok (.iaload, 1) := by decide +kernel
theorem dX3_spreadJoins_20 : decode cX3_spreadJoins 20 = .ok (.iload_n 1, 1) := by decide +kernel
theorem dX3_spreadJoins_21 : decode cX3_spreadJoins 21 = .ok (.ishr, 1) := by decide +kernel
theorem dX3_spreadJoins_22 : decode cX3_spreadJoins 22 = .ok (.iconst 1, 1) := by decide +kernel
theorem dX3_spreadJoins_23 : decode cX3_spreadJoins 23 = .ok (.iand, 1) := by decide +kernel
theorem dX3_spreadJoins_24 : decode cX3_spreadJoins 24 = .ok (.ifCond .eq 18, 3) := by decide +kernel
theorem dX3_spreadJoins_27 : decode cX3_spreadJoins 27 = .ok (.aload_n 0, 1) := by decide +kernel
theorem dX3_spreadJoins_28 : decode cX3_spreadJoins 28 = .ok (.getfield 22, 3) := by decide +kernel
theorem dX3_spreadJoins_31 : decode cX3_spreadJoins 31 = .ok (.iload_n 2, 1) := by decide +kernel
theorem dX3_spreadJoins_32 : decode cX3_spreadJoins 32 = .ok (.dup2, 1) := by decide +kernel
theorem dX3_spreadJoins_33 : decode cX3_spreadJoins 33 = .ok (.iaload, 1) := by decide +kernel
theorem dX3_spreadJoins_34 : decode cX3_spreadJoins 34 = .ok (.aload_n 0, 1) := by decide +kernel
theorem dX3_spreadJoins_35 : decode cX3_spreadJoins 35 = .ok (.getfield 22, 3) := by decide +kernel
theorem dX3_spreadJoins_38 : decode cX3_spreadJoins 38 = .ok (.iload_n 1, 1) := by decide +kernel
theorem dX3_spreadJoins_39 : decode cX3_spreadJoins 39 = .ok (.iaload, 1) := by decide +kernel
theorem dX3_spreadJoins_40 : decode cX3_spreadJoins 40 = .ok (.ior, 1) := by decide +kernel
theorem dX3_spreadJoins_41 : decode cX3_spreadJoins 41 = .ok (.iastore, 1) := by decide +kernel
theorem dX3_spreadJoins_42 : decode cX3_spreadJoins 42 = .ok (.iinc 2 1, 3) := by decide +kernel
theorem dX3_spreadJoins_45 : decode cX3_spreadJoins 45 = .ok (.goto (-36), 3) := by decide +kernel
theorem dX3_spreadJoins_48 : decode cX3_spreadJoins 48 = .ok (.iinc 1 1, 3) := by decide +kernel
theorem dX3_spreadJoins_51 : decode cX3_spreadJoins 51 = .ok (.goto (-49), 3) := by decide +kernel
theorem dX3_spreadJoins_54 : decode cX3_spreadJoins 54 = .ok (.return_, 1) := by decide +kernel
theorem dX3_isLowest_0 : decode cX3_isLowest 0 = .ok (.aload_n 0, 1) := by decide +kernel
theorem dX3_isLowest_1 : decode cX3_isLowest 1 = .ok (.getfield 22, 3) := by decide +kernel
theorem dX3_isLowest_4 : decode cX3_isLowest 4 = .ok (.iload_n 1, 1) := by decide +kernel
theorem dX3_isLowest_5 : decode cX3_isLowest 5 = .ok (.iaload, 1) := by decide +kernel
theorem dX3_isLowest_6 : decode cX3_isLowest 6 = .ok (.iconst 1, 1) := by decide +kernel
theorem dX3_isLowest_7 : decode cX3_isLowest 7 = .ok (.iload_n 1, 1) := by decide +kernel
theorem dX3_isLowest_8 : decode cX3_isLowest 8 = .ok (.ishl, 1) := by decide +kernel
theorem dX3_isLowest_9 : decode cX3_isLowest 9 = .ok (.iconst 1, 1) := by decide +kernel
theorem dX3_isLowest_10 : decode cX3_isLowest 10 = .ok (.isub, 1) := by decide +kernel
theorem dX3_isLowest_11 : decode cX3_isLowest 11 = .ok (.iand, 1) := by decide +kernel
theorem dX3_isLowest_12 : decode cX3_isLowest 12 = .ok (.ifCond .ne 7, 3) := by decide +kernel
theorem dX3_isLowest_15 : decode cX3_isLowest 15 = .ok (.iconst 1, 1) := by decide +kernel
theorem dX3_isLowest_16 : decode cX3_isLowest 16 = .ok (.goto 4, 3) := by decide +kernel
theorem dX3_isLowest_19 : decode cX3_isLowest 19 = .ok (.iconst 0, 1) := by decide +kernel
theorem dX3_isLowest_20 : decode cX3_isLowest 20 = .ok (.ireturn, 1) := by decide +kernel
theorem dX3_setToZero_0 : decode cX3_setToZero 0 = .ok (.iconst 0, 1) := by decide +kernel
theorem dX3_setToZero_1 : decode cX3_setToZero 1 = .ok (.istore_n 2, 1) := by decide +kernel
theorem dX3_setToZero_2 : decode cX3_setToZero 2 = .ok (.iload_n 2, 1) := by decide +kernel
theorem dX3_setToZero_3 : decode cX3_setToZero 3 = .ok (.iconst 5, 1) := by decide +kernel
theorem dX3_setToZero_4 : decode cX3_setToZero 4 = .ok (.if_icmp .ge 20, 3) := by decide +kernel
theorem dX3_setToZero_7 : decode cX3_setToZero 7 = .ok (.aload_n 0, 1) := by decide +kernel
theorem dX3_setToZero_8 : decode cX3_setToZero 8 = .ok (.getfield 15, 3) := by decide +kernel
theorem dX3_setToZero_11 : decode cX3_setToZero 11 = .ok (.iload_n 1, 1) := by decide +kernel
theorem dX3_setToZero_12 : decode cX3_setToZero 12 = .ok (.iconst 5, 1) := by decide +kernel
theorem dX3_setToZero_13 : decode cX3_setToZero 13 = .ok (.imul, 1) := by decide +kernel
theorem dX3_setToZero_14 : decode cX3_setToZero 14 = .ok (.iload_n 2, 1) := by decide +kernel
theorem dX3_setToZero_15 : decode cX3_setToZero 15 = .ok (.iadd, 1) := by decide +kernel
theorem dX3_setToZero_16 : decode cX3_setToZero 16 = .ok (.lconst 0, 1) := by decide +kernel
theorem dX3_setToZero_17 : decode cX3_setToZero 17 = .ok (.lastore, 1) := by decide +kernel
theorem dX3_setToZero_18 : decode cX3_setToZero 18 = .ok (.iinc 2 1, 3) := by decide +kernel
theorem dX3_setToZero_21 : decode cX3_setToZero 21 = .ok (.goto (-19), 3) := by decide +kernel
theorem dX3_setToZero_24 : decode cX3_setToZero 24 = .ok (.aload_n 0, 1) := by decide +kernel
theorem dX3_setToZero_25 : decode cX3_setToZero 25 = .ok (.getfield 15, 3) := by decide +kernel
theorem dX3_setToZero_28 : decode cX3_setToZero 28 = .ok (.iload_n 1, 1) := by decide +kernel
theorem dX3_setToZero_29 : decode cX3_setToZero 29 = .ok (.iconst 5, 1) := by decide +kernel
theorem dX3_setToZero_30 : decode cX3_setToZero 30 = .ok (.imul, 1) := by decide +kernel
theorem dX3_setToZero_31 : decode cX3_setToZero 31 = .ok (.iload_n 1, 1) := by decide +kernel
theorem dX3_setToZero_32 : decode cX3_setToZero 32 = .ok (.iadd, 1) := by decide +kernel
theorem dX3_setToZero_33 : decode cX3_setToZero 33 = .ok (.lconst 1, 1) := by decide +kernel
theorem dX3_setToZero_34 : decode cX3_setToZero 34 = .ok (.lastore, 1) := by decide +kernel
theorem dX3_setToZero_35 : decode cX3_setToZero 35 = .ok (.aload_n 0, 1) := by decide +kernel
theorem dX3_setToZero_36 : decode cX3_setToZero 36 = .ok (.getfield 19, 3) := by decide +kernel
theorem dX3_setToZero_39 : decode cX3_setToZero 39 = .ok (.iload_n 1, 1) := by decide +kernel
theorem dX3_setToZero_40 : decode cX3_setToZero 40 = .ok (.lconst 0, 1) := by decide +kernel
theorem dX3_setToZero_41 : decode cX3_setToZero 41 = .ok (.lastore, 1) := by decide +kernel
theorem dX3_setToZero_42 : decode cX3_setToZero 42 = .ok (.return_, 1) := by decide +kernel
theorem dX3_determinant_0 : decode cX3_determinant 0 = .ok (.iload_n 3, 1) := by decide +kernel
theorem dX3_determinant_1 : decode cX3_determinant 1 = .ok (.iconst 5, 1) := by decide +kernel
theorem dX3_determinant_2 : decode cX3_determinant 2 = .ok (.if_icmp .lt 5, 3) := by decide +kernel
theorem dX3_determinant_5 : decode cX3_determinant 5 = .ok (.lconst 1, 1) := by decide +kernel
theorem dX3_determinant_6 : decode cX3_determinant 6 = .ok (.lreturn, 1) := by decide +kernel
theorem dX3_determinant_7 : decode cX3_determinant 7 = .ok (.lconst 0, 1) := by decide +kernel
theorem dX3_determinant_8 : decode cX3_determinant 8 = .ok (.lstore 5, 2) := by decide +kernel
theorem dX3_determinant_10 : decode cX3_determinant 10 = .ok (.lconst 1, 1) := by decide +kernel
theorem dX3_determinant_11 : decode cX3_determinant 11 = .ok (.lstore 7, 2) := by decide +kernel
theorem dX3_determinant_13 : decode cX3_determinant 13 = .ok (.iconst 0, 1) := by decide +kernel
theorem dX3_determinant_14 : decode cX3_determinant 14 = .ok (.istore 9, 2) := by decide +kernel
theorem dX3_determinant_16 : decode cX3_determinant 16 = .ok (.iload 9, 2) := by decide +kernel
theorem dX3_determinant_18 : decode cX3_determinant 18 = .ok (.iconst 5, 1) := by decide +kernel
theorem dX3_determinant_19 : decode cX3_determinant 19 = .ok (.if_icmp .ge 83, 3) := by decide +kernel
theorem dX3_determinant_22 : decode cX3_determinant 22 = .ok (.iload 4, 2) := by decide +kernel
theorem dX3_determinant_24 : decode cX3_determinant 24 = .ok (.iload 9, 2) := by decide +kernel
theorem dX3_determinant_26 : decode cX3_determinant 26 = .ok (.ishr, 1) := by decide +kernel
theorem dX3_determinant_27 : decode cX3_determinant 27 = .ok (.iconst 1, 1) := by decide +kernel
theorem dX3_determinant_28 : decode cX3_determinant 28 = .ok (.iand, 1) := by decide +kernel
theorem dX3_determinant_29 : decode cX3_determinant 29 = .ok (.ifCond .eq 6, 3) := by decide +kernel
theorem dX3_determinant_32 : decode cX3_determinant 32 = .ok (.goto 64, 3) := by decide +kernel
theorem dX3_determinant_35 : decode cX3_determinant 35 = .ok (.iload 9, 2) := by decide +kernel
theorem dX3_determinant_37 : decode cX3_determinant 37 = .ok (.iload_n 2, 1) := by decide +kernel
theorem dX3_determinant_38 : decode cX3_determinant 38 = .ok (.if_icmp .ne 9, 3) := by decide +kernel
theorem dX3_determinant_41 : decode cX3_determinant 41 = .ok (.aload_n 1, 1) := by decide +kernel
theorem dX3_determinant_42 : decode cX3_determinant 42 = .ok (.iload_n 3, 1) := by decide +kernel
theorem dX3_determinant_43 : decode cX3_determinant 43 = .ok (.laload, 1) := by decide +kernel
theorem dX3_determinant_44 : decode cX3_determinant 44 = .ok (.goto 11, 3) := by decide +kernel
theorem dX3_determinant_47 : decode cX3_determinant 47 = .ok (.aload_n 0, 1) := by decide +kernel
theorem dX3_determinant_48 : decode cX3_determinant 48 = .ok (.iload_n 3, 1) := by decide +kernel
theorem dX3_determinant_49 : decode cX3_determinant 49 = .ok (.iconst 5, 1) := by decide +kernel
theorem dX3_determinant_50 : decode cX3_determinant 50 = .ok (.imul, 1) := by decide +kernel
theorem dX3_determinant_51 : decode cX3_determinant 51 = .ok (.iload 9, 2) := by decide +kernel
theorem dX3_determinant_53 : decode cX3_determinant 53 = .ok (.iadd, 1) := by decide +kernel
theorem dX3_determinant_54 : decode cX3_determinant 54 = .ok (.laload, 1) := by decide +kernel
theorem dX3_determinant_55 : decode cX3_determinant 55 = .ok (.lstore 10, 2) := by decide +kernel
theorem dX3_determinant_57 : decode cX3_determinant 57 = .ok (.lload 10, 2) := by decide +kernel
theorem dX3_determinant_59 : decode cX3_determinant 59 = .ok (.lconst 0, 1) := by decide +kernel
theorem dX3_determinant_60 : decode cX3_determinant 60 = .ok (.lcmp, 1) := by decide +kernel
theorem dX3_determinant_61 : decode cX3_determinant 61 = .ok (.ifCond .eq 30, 3) := by decide +kernel
theorem dX3_determinant_64 : decode cX3_determinant 64 = .ok (.lload 5, 2) := by decide +kernel
theorem dX3_determinant_66 : decode cX3_determinant 66 = .ok (.lload 7, 2) := by decide +kernel
theorem dX3_determinant_68 : decode cX3_determinant 68 = .ok (.lload 10, 2) := by decide +kernel
theorem dX3_determinant_70 : decode cX3_determinant 70 = .ok (.lmul, 1) := by decide +kernel
theorem dX3_determinant_71 : decode cX3_determinant 71 = .ok (.aload_n 0, 1) := by decide +kernel
theorem dX3_determinant_72 : decode cX3_determinant 72 = .ok (.aload_n 1, 1) := by decide +kernel
theorem dX3_determinant_73 : decode cX3_determinant 73 = .ok (.iload_n 2, 1) := by decide +kernel
theorem dX3_determinant_74 : decode cX3_determinant 74 = .ok (.iload_n 3, 1) := by decide +kernel
theorem dX3_determinant_75 : decode cX3_determinant 75 = .ok (.iconst 1, 1) := by decide +kernel
theorem dX3_determinant_76 : decode cX3_determinant 76 = .ok (.iadd, 1) := by decide +kernel
theorem dX3_determinant_77 : decode cX3_determinant 77 = .ok (.iload 4, 2) := by decide +kernel
theorem dX3_determinant_79 : decode cX3_determinant 79 = .ok (.iconst 1, 1) := by decide +kernel
theorem dX3_determinant_80 : decode cX3_determinant 80 = .ok (.iload 9, 2) := by decide +kernel
theorem dX3_determinant_82 : decode cX3_determinant 82 = .ok (.ishl, 1) := by decide +kernel
theorem dX3_determinant_83 : decode cX3_determinant 83 = .ok (.ior, 1) := by decide +kernel
theorem dX3_determinant_84 : decode cX3_determinant 84 = .ok (.invokestatic 74, 3) := by decide +kernel
theorem dX3_determinant_87 : decode cX3_determinant 87 = .ok (.lmul, 1) := by decide +kernel
theorem dX3_determinant_88 : decode cX3_determinant 88 = .ok (.ladd, 1) := by decide +kernel
theorem dX3_determinant_89 : decode cX3_determinant 89 = .ok (.lstore 5, 2) := by decide +kernel
theorem dX3_determinant_91 : decode cX3_determinant 91 = .ok (.lload 7, 2) := by decide +kernel
theorem dX3_determinant_93 : decode cX3_determinant 93 = .ok (.lneg, 1) := by decide +kernel
theorem dX3_determinant_94 : decode cX3_determinant 94 = .ok (.lstore 7, 2) := by decide +kernel
theorem dX3_determinant_96 : decode cX3_determinant 96 = .ok (.iinc 9 1, 3) := by decide +kernel
theorem dX3_determinant_99 : decode cX3_determinant 99 = .ok (.goto (-83), 3) := by decide +kernel
theorem dX3_determinant_102 : decode cX3_determinant 102 = .ok (.lload 5, 2) := by decide +kernel
theorem dX3_determinant_104 : decode cX3_determinant 104 = .ok (.lreturn, 1) := by decide +kernel
theorem dX4_init_0 : decode cX4_init 0 = .ok (.aload_n 0, 1) := by decide +kernel
theorem dX4_init_1 : decode cX4_init 1 = .ok (.invokespecial 3, 3) := by decide +kernel
theorem dX4_init_4 : decode cX4_init 4 = .ok (.aload_n 0, 1) := by decide +kernel
theorem dX4_init_5 : decode cX4_init 5 = .ok (.bipush 20, 2) := by decide +kernel
theorem dX4_init_7 : decode cX4_init 7 = .ok (.newarray .int, 2) := by decide +kernel
theorem dX4_init_9 : decode cX4_init 9 = .ok (.putfield 9, 3) := by decide +kernel
theorem dX4_init_12 : decode cX4_init 12 = .ok (.aload_n 0, 1) := by decide +kernel
theorem dX4_init_13 : decode cX4_init 13 = .ok (.bipush 20, 2) := by decide +kernel
theorem dX4_init_15 : decode cX4_init 15 = .ok (.newarray .int, 2) := by decide +kernel
theorem dX4_init_17 : decode cX4_init 17 = .ok (.putfield 15, 3) := by decide +kernel
theorem dX4_init_20 : decode cX4_init 20 = .ok (.aload_n 0, 1) := by decide +kernel
theorem dX4_init_21 : decode cX4_init 21 = .ok (.bipush 20, 2) := by decide +kernel
theorem dX4_init_23 : decode cX4_init 23 = .ok (.newarray .int, 2) := by decide +kernel
theorem dX4_init_25 : decode cX4_init 25 = .ok (.putfield 18, 3) := by decide +kernel
theorem dX4_init_28 : decode cX4_init 28 = .ok (.aload_n 0, 1) := by decide +kernel
theorem dX4_init_29 : decode cX4_init 29 = .ok (.bipush 20, 2) := by decide +kernel
theorem dX4_init_31 : decode cX4_init 31 = .ok (.newarray .int, 2) := by decide +kernel
theorem dX4_init_33 : decode cX4_init 33 = .ok (.putfield 21, 3) := by decide +kernel
theorem dX4_init_36 : decode cX4_init 36 = .ok (.aload_n 0, 1) := by decide +kernel
theorem dX4_init_37 : decode cX4_init 37 = .ok (.bipush 20, 2) := by decide +kernel
theorem dX4_init_39 : decode cX4_init 39 = .ok (.newarray .int, 2) := by decide +kernel
theorem dX4_init_41 : decode cX4_init 41 = .ok (.putfield 24, 3) := by decide +kernel
theorem dX4_init_44 : decode cX4_init 44 = .ok (.aload_n 0, 1) := by decide +kernel
theorem dX4_init_45 : decode cX4_init 45 = .ok (.bipush 20, 2) := by decide +kernel
theorem dX4_init_47 : decode cX4_init 47 = .ok (.newarray .int, 2) := by decide +kernel
theorem dX4_init_49 : decode cX4_init 49 = .ok (.putfield 27, 3) := by decide +kernel
theorem dX4_init_52 : decode cX4_init 52 = .ok (.aload_n 0, 1) := by decide +kernel
theorem dX4_init_53 : decode cX4_init 53 = .ok (.bipush 20, 2) := by decide +kernel
theorem dX4_init_55 : decode cX4_init 55 = .ok (.newarray .boolean, 2) := by decide +kernel
theorem dX4_init_57 : decode cX4_init 57 = .ok (.putfield 30, 3) := by decide +kernel
theorem dX4_init_60 : decode cX4_init 60 = .ok (.aload_n 0, 1) := by decide +kernel
theorem dX4_init_61 : decode cX4_init 61 = .ok (.bipush 20, 2) := by decide +kernel
theorem dX4_init_63 : decode cX4_init 63 = .ok (.newarray .int, 2) := by decide +kernel
theorem dX4_init_65 : decode cX4_init 65 = .ok (.putfield 34, 3) := by decide +kernel
theorem dX4_init_68 : decode cX4_init 68 = .ok (.aload_n 0, 1) := by decide +kernel
theorem dX4_init_69 : decode cX4_init 69 = .ok (.sipush 160, 3) := by decide +kernel
theorem dX4_init_72 : decode cX4_init 72 = .ok (.newarray .int, 2) := by decide +kernel
theorem dX4_init_74 : decode cX4_init 74 = .ok (.putfield 37, 3) := by decide +kernel
theorem dX4_init_77 : decode cX4_init 77 = .ok (.aload_n 0, 1) := by decide +kernel
theorem dX4_init_78 : decode cX4_init 78 = .ok (.sipush 160, 3) := by decide +kernel
theorem dX4_init_81 : decode cX4_init 81 = .ok (.newarray .int, 2) := by decide +kernel
theorem dX4_init_83 : decode cX4_init 83 = .ok (.putfield 40, 3) := by decide +kernel
theorem dX4_init_86 : decode cX4_init 86 = .ok (.aload_n 0, 1) := by decide +kernel
theorem dX4_init_87 : decode cX4_init 87 = .ok (.iconst 0, 1) := by decide +kernel
theorem dX4_init_88 : decode cX4_init 88 = .ok (.putfield 43, 3) := by decide +kernel
theorem dX4_init_91 : decode cX4_init 91 = .ok (.return_, 1) := by decide +kernel
theorem dX4_size_0 : decode cX4_size 0 = .ok (.aload_n 0, 1) := by decide +kernel
theorem dX4_size_1 : decode cX4_size 1 = .ok (.getfield 43, 3) := by decide +kernel
theorem dX4_size_4 : decode cX4_size 4 = .ok (.ireturn, 1) := by decide +kernel
theorem dX4_isFull_0 : decode cX4_isFull 0 = .ok (.aload_n 0, 1) := by decide +kernel
theorem dX4_isFull_1 : decode cX4_isFull 1 = .ok (.getfield 43, 3) := by decide +kernel
theorem dX4_isFull_4 : decode cX4_isFull 4 = .ok (.bipush 20, 2) := by decide +kernel
theorem dX4_isFull_6 : decode cX4_isFull 6 = .ok (.if_icmp .lt 7, 3) := by decide +kernel
theorem dX4_isFull_9 : decode cX4_isFull 9 = .ok (.iconst 1, 1) := by decide +kernel
theorem dX4_isFull_10 : decode cX4_isFull 10 = .ok (.goto 4, 3) := by decide +kernel
theorem dX4_isFull_13 : decode cX4_isFull 13 = .ok (.iconst 0, 1) := by decide +kernel
theorem dX4_isFull_14 : decode cX4_isFull 14 = .ok (.ireturn, 1) := by decide +kernel
theorem dX4_has_0 : decode cX4_has 0 = .ok (.iload_n 1, 1) := by decide +kernel
theorem dX4_has_1 : decode cX4_has 1 = .ok (.ifCond .lt 15, 3) := by decide +kernel
theorem dX4_has_4 : decode cX4_has 4 = .ok (.iload_n 1, 1) := by decide +kernel
theorem dX4_has_5 : decode cX4_has 5 = .ok (.aload_n 0, 1) := by decide +kernel
theorem dX4_has_6 : decode cX4_has 6 = .ok (.getfield 43, 3) := by decide +kernel
theorem dX4_has_9 : decode cX4_has 9 = .ok (.if_icmp .ge 7, 3) := by decide +kernel
theorem dX4_has_12 : decode cX4_has 12 = .ok (.iconst 1, 1) := by decide +kernel
theorem dX4_has_13 : decode cX4_has 13 = .ok (.goto 4, 3) := by decide +kernel
theorem dX4_has_16 : decode cX4_has 16 = .ok (.iconst 0, 1) := by decide +kernel
theorem dX4_has_17 : decode cX4_has 17 = .ok (.ireturn, 1) := by decide +kernel
theorem dX4_add_0 : decode cX4_add 0 = .ok (.aload_n 0, 1) := by decide +kernel
theorem dX4_add_1 : decode cX4_add 1 = .ok (.getfield 9, 3) := by decide +kernel
theorem dX4_add_4 : decode cX4_add 4 = .ok (.aload_n 0, 1) := by decide +kernel
theorem dX4_add_5 : decode cX4_add 5 = .ok (.getfield 43, 3) := by decide +kernel
theorem dX4_add_8 : decode cX4_add 8 = .ok (.iload_n 1, 1) := by decide +kernel
theorem dX4_add_9 : decode cX4_add 9 = .ok (.iastore, 1) := by decide +kernel
theorem dX4_add_10 : decode cX4_add 10 = .ok (.aload_n 0, 1) := by decide +kernel
theorem dX4_add_11 : decode cX4_add 11 = .ok (.getfield 15, 3) := by decide +kernel
theorem dX4_add_14 : decode cX4_add 14 = .ok (.aload_n 0, 1) := by decide +kernel
theorem dX4_add_15 : decode cX4_add 15 = .ok (.getfield 43, 3) := by decide +kernel
theorem dX4_add_18 : decode cX4_add 18 = .ok (.iload_n 2, 1) := by decide +kernel
theorem dX4_add_19 : decode cX4_add 19 = .ok (.iastore, 1) := by decide +kernel
theorem dX4_add_20 : decode cX4_add 20 = .ok (.aload_n 0, 1) := by decide +kernel
theorem dX4_add_21 : decode cX4_add 21 = .ok (.getfield 18, 3) := by decide +kernel
theorem dX4_add_24 : decode cX4_add 24 = .ok (.aload_n 0, 1) := by decide +kernel
theorem dX4_add_25 : decode cX4_add 25 = .ok (.getfield 43, 3) := by decide +kernel
theorem dX4_add_28 : decode cX4_add 28 = .ok (.iload_n 3, 1) := by decide +kernel
theorem dX4_add_29 : decode cX4_add 29 = .ok (.iastore, 1) := by decide +kernel
theorem dX4_add_30 : decode cX4_add 30 = .ok (.aload_n 0, 1) := by decide +kernel
theorem dX4_add_31 : decode cX4_add 31 = .ok (.getfield 21, 3) := by decide +kernel
theorem dX4_add_34 : decode cX4_add 34 = .ok (.aload_n 0, 1) := by decide +kernel
theorem dX4_add_35 : decode cX4_add 35 = .ok (.getfield 43, 3) := by decide +kernel
theorem dX4_add_38 : decode cX4_add 38 = .ok (.iload 4, 2) := by decide +kernel
theorem dX4_add_40 : decode cX4_add 40 = .ok (.iastore, 1) := by decide +kernel
theorem dX4_add_41 : decode cX4_add 41 = .ok (.aload_n 0, 1) := by decide +kernel
theorem dX4_add_42 : decode cX4_add 42 = .ok (.getfield 24, 3) := by decide +kernel
theorem dX4_add_45 : decode cX4_add 45 = .ok (.aload_n 0, 1) := by decide +kernel
theorem dX4_add_46 : decode cX4_add 46 = .ok (.getfield 43, 3) := by decide +kernel
theorem dX4_add_49 : decode cX4_add 49 = .ok (.iload 5, 2) := by decide +kernel
theorem dX4_add_51 : decode cX4_add 51 = .ok (.iastore, 1) := by decide +kernel
theorem dX4_add_52 : decode cX4_add 52 = .ok (.aload_n 0, 1) := by decide +kernel
theorem dX4_add_53 : decode cX4_add 53 = .ok (.dup, 1) := by decide +kernel
theorem dX4_add_54 : decode cX4_add 54 = .ok (.getfield 43, 3) := by decide +kernel
theorem dX4_add_57 : decode cX4_add 57 = .ok (.dup_x1, 1) := by decide +kernel
theorem dX4_add_58 : decode cX4_add 58 = .ok (.iconst 1, 1) := by decide +kernel
theorem dX4_add_59 : decode cX4_add 59 = .ok (.iadd, 1) := by decide +kernel
theorem dX4_add_60 : decode cX4_add 60 = .ok (.putfield 43, 3) := by decide +kernel
theorem dX4_add_63 : decode cX4_add 63 = .ok (.ireturn, 1) := by decide +kernel
theorem dX4_kindOf_0 : decode cX4_kindOf 0 = .ok (.aload_n 0, 1) := by decide +kernel
theorem dX4_kindOf_1 : decode cX4_kindOf 1 = .ok (.getfield 9, 3) := by decide +kernel
theorem dX4_kindOf_4 : decode cX4_kindOf 4 = .ok (.iload_n 1, 1) := by decide +kernel
theorem dX4_kindOf_5 : decode cX4_kindOf 5 = .ok (.iaload, 1) := by decide +kernel
theorem dX4_kindOf_6 : decode cX4_kindOf 6 = .ok (.ireturn, 1) := by decide +kernel
theorem dX4_mouthsOf_0 : decode cX4_mouthsOf 0 = .ok (.aload_n 0, 1) := by decide +kernel
theorem dX4_mouthsOf_1 : decode cX4_mouthsOf 1 = .ok (.getfield 18, 3) := by decide +kernel
theorem dX4_mouthsOf_4 : decode cX4_mouthsOf 4 = .ok (.iload_n 1, 1) := by decide +kernel
theorem dX4_mouthsOf_5 : decode cX4_mouthsOf 5 = .ok (.iaload, 1) := by decide +kernel
theorem dX4_mouthsOf_6 : decode cX4_mouthsOf 6 = .ok (.ireturn, 1) := by decide +kernel
theorem dX4_ownerOf_0 : decode cX4_ownerOf 0 = .ok (.aload_n 0, 1) := by decide +kernel
theorem dX4_ownerOf_1 : decode cX4_ownerOf 1 = .ok (.getfield 21, 3) := by decide +kernel
theorem dX4_ownerOf_4 : decode cX4_ownerOf 4 = .ok (.iload_n 1, 1) := by decide +kernel
theorem dX4_ownerOf_5 : decode cX4_ownerOf 5 = .ok (.iaload, 1) := by decide +kernel
theorem dX4_ownerOf_6 : decode cX4_ownerOf 6 = .ok (.ireturn, 1) := by decide +kernel
theorem dX4_isMeant_0 : decode cX4_isMeant 0 = .ok (.aload_n 0, 1) := by decide +kernel
theorem dX4_isMeant_1 : decode cX4_isMeant 1 = .ok (.getfield 15, 3) := by decide +kernel
theorem dX4_isMeant_4 : decode cX4_isMeant 4 = .ok (.iload_n 1, 1) := by decide +kernel
theorem dX4_isMeant_5 : decode cX4_isMeant 5 = .ok (.iaload, 1) := by decide +kernel
theorem dX4_isMeant_6 : decode cX4_isMeant 6 = .ok (.iload_n 2, 1) := by decide +kernel
theorem dX4_isMeant_7 : decode cX4_isMeant 7 = .ok (.if_icmp .ne 20, 3) := by decide +kernel
theorem dX4_isMeant_10 : decode cX4_isMeant 10 = .ok (.aload_n 0, 1) := by decide +kernel
theorem dX4_isMeant_11 : decode cX4_isMeant 11 = .ok (.getfield 24, 3) := by decide +kernel
theorem dX4_isMeant_14 : decode cX4_isMeant 14 = .ok (.iload_n 1, 1) := by decide +kernel
theorem dX4_isMeant_15 : decode cX4_isMeant 15 = .ok (.iaload, 1) := by decide +kernel
theorem dX4_isMeant_16 : decode cX4_isMeant 16 = .ok (.iload_n 3, 1) := by decide +kernel
theorem dX4_isMeant_17 : decode cX4_isMeant 17 = .ok (.ishr, 1) := by decide +kernel
theorem dX4_isMeant_18 : decode cX4_isMeant 18 = .ok (.iconst 1, 1) := by decide +kernel
theorem dX4_isMeant_19 : decode cX4_isMeant 19 = .ok (.iand, 1) := by decide +kernel
theorem dX4_isMeant_20 : decode cX4_isMeant 20 = .ok (.ifCond .eq 7, 3) := by decide +kernel
theorem dX4_isMeant_23 : decode cX4_isMeant 23 = .ok (.iconst 1, 1) := by decide +kernel
theorem dX4_isMeant_24 : decode cX4_isMeant 24 = .ok (.goto 4, 3) := by decide +kernel
theorem dX4_isMeant_27 : decode cX4_isMeant 27 = .ok (.iconst 0, 1) := by decide +kernel
theorem dX4_isMeant_28 : decode cX4_isMeant 28 = .ok (.ireturn, 1) := by decide +kernel
theorem dX4_isHard_0 : decode cX4_isHard 0 = .ok (.aload_n 0, 1) := by decide +kernel
theorem dX4_isHard_1 : decode cX4_isHard 1 = .ok (.getfield 30, 3) := by decide +kernel
theorem dX4_isHard_4 : decode cX4_isHard 4 = .ok (.iload_n 1, 1) := by decide +kernel
theorem dX4_isHard_5 : decode cX4_isHard 5 = .ok (.baload, 1) := by decide +kernel
theorem dX4_isHard_6 : decode cX4_isHard 6 = .ok (.ireturn, 1) := by decide +kernel
theorem dX4_changeHard_0 : decode cX4_changeHard 0 = .ok (.aload_n 0, 1) := by decide +kernel
theorem dX4_changeHard_1 : decode cX4_changeHard 1 = .ok (.getfield 30, 3) := by decide +kernel
theorem dX4_changeHard_4 : decode cX4_changeHard 4 = .ok (.iload_n 1, 1) := by decide +kernel
theorem dX4_changeHard_5 : decode cX4_changeHard 5 = .ok (.iload_n 2, 1) := by decide +kernel
theorem dX4_changeHard_6 : decode cX4_changeHard 6 = .ok (.bastore, 1) := by decide +kernel
theorem dX4_changeHard_7 : decode cX4_changeHard 7 = .ok (.return_, 1) := by decide +kernel
theorem dX4_shownOn_0 : decode cX4_shownOn 0 = .ok (.aload_n 0, 1) := by decide +kernel
theorem dX4_shownOn_1 : decode cX4_shownOn 1 = .ok (.getfield 27, 3) := by decide +kernel
theorem dX4_shownOn_4 : decode cX4_shownOn 4 = .ok (.iload_n 1, 1) := by decide +kernel
theorem dX4_shownOn_5 : decode cX4_shownOn 5 = .ok (.iaload, 1) := by decide +kernel
theorem dX4_shownOn_6 : decode cX4_shownOn 6 = .ok (.ireturn, 1) := by decide +kernel
theorem dX4_changeShown_0 : decode cX4_changeShown 0 = .ok (.aload_n 0, 1) := by decide +kernel
theorem dX4_changeShown_1 : decode cX4_changeShown 1 = .ok (.getfield 27, 3) := by decide +kernel
theorem dX4_changeShown_4 : decode cX4_changeShown 4 = .ok (.iload_n 1, 1) := by decide +kernel
theorem dX4_changeShown_5 : decode cX4_changeShown 5 = .ok (.iaload, 1) := by decide +kernel
theorem dX4_changeShown_6 : decode cX4_changeShown 6 = .ok (.istore_n 3, 1) := by decide +kernel
theorem dX4_changeShown_7 : decode cX4_changeShown 7 = .ok (.aload_n 0, 1) := by decide +kernel
theorem dX4_changeShown_8 : decode cX4_changeShown 8 = .ok (.getfield 27, 3) := by decide +kernel
theorem dX4_changeShown_11 : decode cX4_changeShown 11 = .ok (.iload_n 1, 1) := by decide +kernel
theorem dX4_changeShown_12 : decode cX4_changeShown 12 = .ok (.iload_n 2, 1) := by decide +kernel
theorem dX4_changeShown_13 : decode cX4_changeShown 13 = .ok (.iastore, 1) := by decide +kernel
theorem dX4_changeShown_14 : decode cX4_changeShown 14 = .ok (.iload_n 3, 1) := by decide +kernel
theorem dX4_changeShown_15 : decode cX4_changeShown 15 = .ok (.ireturn, 1) := by decide +kernel
theorem dX4_shutsOf_0 : decode cX4_shutsOf 0 = .ok (.aload_n 0, 1) := by decide +kernel
theorem dX4_shutsOf_1 : decode cX4_shutsOf 1 = .ok (.getfield 34, 3) := by decide +kernel
theorem dX4_shutsOf_4 : decode cX4_shutsOf 4 = .ok (.iload_n 1, 1) := by decide +kernel
theorem dX4_shutsOf_5 : decode cX4_shutsOf 5 = .ok (.iaload, 1) := by decide +kernel
theorem dX4_shutsOf_6 : decode cX4_shutsOf 6 = .ok (.ireturn, 1) := by decide +kernel
theorem dX4_addShut_0 : decode cX4_addShut 0 = .ok (.iload_n 1, 1) := by decide +kernel
theorem dX4_addShut_1 : decode cX4_addShut 1 = .ok (.bipush 8, 2) := by decide +kernel
theorem dX4_addShut_3 : decode cX4_addShut 3 = .ok (.imul, 1) := by decide +kernel
theorem dX4_addShut_4 : decode cX4_addShut 4 = .ok (.aload_n 0, 1) := by decide +kernel
theorem dX4_addShut_5 : decode cX4_addShut 5 = .ok (.getfield 34, 3) := by decide +kernel
theorem dX4_addShut_8 : decode cX4_addShut 8 = .ok (.iload_n 1, 1) := by decide +kernel
theorem dX4_addShut_9 : decode cX4_addShut 9 = .ok (.iaload, 1) := by decide +kernel
theorem dX4_addShut_10 : decode cX4_addShut 10 = .ok (.iadd, 1) := by decide +kernel
theorem dX4_addShut_11 : decode cX4_addShut 11 = .ok (.istore 4, 2) := by decide +kernel
theorem dX4_addShut_13 : decode cX4_addShut 13 = .ok (.aload_n 0, 1) := by decide +kernel
theorem dX4_addShut_14 : decode cX4_addShut 14 = .ok (.getfield 37, 3) := by decide +kernel
theorem dX4_addShut_17 : decode cX4_addShut 17 = .ok (.iload 4, 2) := by decide +kernel
theorem dX4_addShut_19 : decode cX4_addShut 19 = .ok (.iload_n 2, 1) := by decide +kernel
theorem dX4_addShut_20 : decode cX4_addShut 20 = .ok (.iastore, 1) := by decide +kernel
theorem dX4_addShut_21 : decode cX4_addShut 21 = .ok (.aload_n 0, 1) := by decide +kernel
theorem dX4_addShut_22 : decode cX4_addShut 22 = .ok (.getfield 40, 3) := by decide +kernel
theorem dX4_addShut_25 : decode cX4_addShut 25 = .ok (.iload 4, 2) := by decide +kernel
theorem dX4_addShut_27 : decode cX4_addShut 27 = .ok (.iload_n 3, 1) := by decide +kernel
theorem dX4_addShut_28 : decode cX4_addShut 28 = .ok (.iastore, 1) := by decide +kernel
theorem dX4_addShut_29 : decode cX4_addShut 29 = .ok (.aload_n 0, 1) := by decide +kernel
theorem dX4_addShut_30 : decode cX4_addShut 30 = .ok (.getfield 34, 3) := by decide +kernel
theorem dX4_addShut_33 : decode cX4_addShut 33 = .ok (.iload_n 1, 1) := by decide +kernel
theorem dX4_addShut_34 : decode cX4_addShut 34 = .ok (.dup2, 1) := by decide +kernel
theorem dX4_addShut_35 : decode cX4_addShut 35 = .ok (.iaload, 1) := by decide +kernel
theorem dX4_addShut_36 : decode cX4_addShut 36 = .ok (.iconst 1, 1) := by decide +kernel
theorem dX4_addShut_37 : decode cX4_addShut 37 = .ok (.iadd, 1) := by decide +kernel
theorem dX4_addShut_38 : decode cX4_addShut 38 = .ok (.dup_x2, 1) := by decide +kernel
theorem dX4_addShut_39 : decode cX4_addShut 39 = .ok (.iastore, 1) := by decide +kernel
theorem dX4_addShut_40 : decode cX4_addShut 40 = .ok (.ireturn, 1) := by decide +kernel
theorem dX4_openDays_0 : decode cX4_openDays 0 = .ok (.iconst 0, 1) := by decide +kernel
theorem dX4_openDays_1 : decode cX4_openDays 1 = .ok (.istore 4, 2) := by decide +kernel
theorem dX4_openDays_3 : decode cX4_openDays 3 = .ok (.iload_n 2, 1) := by decide +kernel
theorem dX4_openDays_4 : decode cX4_openDays 4 = .ok (.istore 5, 2) := by decide +kernel
theorem dX4_openDays_6 : decode cX4_openDays 6 = .ok (.iconst 0, 1) := by decide +kernel
theorem dX4_openDays_7 : decode cX4_openDays 7 = .ok (.istore 6, 2) := by decide +kernel
theorem dX4_openDays_9 : decode cX4_openDays 9 = .ok (.iload 6, 2) := by decide +kernel
theorem dX4_openDays_11 : decode cX4_openDays 11 = .ok (.bipush 16, 2) := by decide +kernel
theorem dX4_openDays_13 : decode cX4_openDays 13 = .ok (.if_icmp .gt 60, 3) := by decide +kernel
theorem dX4_openDays_16 : decode cX4_openDays 16 = .ok (.iload 5, 2) := by decide +kernel
theorem dX4_openDays_18 : decode cX4_openDays 18 = .ok (.iload_n 3, 1) := by decide +kernel
theorem dX4_openDays_19 : decode cX4_openDays 19 = .ok (.if_icmp .gt 54, 3) := by decide +kernel
theorem dX4_openDays_22 : decode cX4_openDays 22 = .ok (.aload_n 0, 1) := by decide +kernel
theorem dX4_openDays_23 : decode cX4_openDays 23 = .ok (.iload_n 1, 1) := by decide +kernel
theorem dX4_openDays_24 : decode cX4_openDays 24 = .ok (.iload 5, 2) := by decide +kernel
theorem dX4_openDays_26 : decode cX4_openDays 26 = .ok (.invokevirtual 47, 3) := by decide +kernel
theorem dX4_openDays_29 : decode cX4_openDays 29 = .ok (.istore 7, 2) := by decide +kernel
theorem dX4_openDays_31 : decode cX4_openDays 31 = .ok (.iload 7, 2) := by decide +kernel
theorem dX4_openDays_33 : decode cX4_openDays 33 = .ok (.iload 5, 2) := by decide +kernel
theorem dX4_openDays_35 : decode cX4_openDays 35 = .ok (.if_icmp .ne 28, 3) := by decide +kernel
theorem dX4_openDays_38 : decode cX4_openDays 38 = .ok (.iload_n 3, 1) := by decide +kernel
theorem dX4_openDays_39 : decode cX4_openDays 39 = .ok (.iconst 1, 1) := by decide +kernel
theorem dX4_openDays_40 : decode cX4_openDays 40 = .ok (.iadd, 1) := by decide +kernel
theorem dX4_openDays_41 : decode cX4_openDays 41 = .ok (.aload_n 0, 1) := by decide +kernel
theorem dX4_openDays_42 : decode cX4_openDays 42 = .ok (.iload_n 1, 1) := by decide +kernel
theorem dX4_openDays_43 : decode cX4_openDays 43 = .ok (.iload 5, 2) := by decide +kernel
theorem dX4_openDays_45 : decode cX4_openDays 45 = .ok (.invokevirtual 51, 3) := by decide +kernel
theorem dX4_openDays_48 : decode cX4_openDays 48 = .ok (.invokestatic 54, 3) := by decide +kernel
theorem dX4_openDays_51 : decode cX4_openDays 51 = .ok (.istore 7, 2) := by decide +kernel
theorem dX4_openDays_53 : decode cX4_openDays 53 = .ok (.iload 4, 2) := by decide +kernel
theorem dX4_openDays_55 : decode cX4_openDays 55 = .ok (.iload 7, 2) := by decide +kernel
theorem dX4_openDays_57 : decode cX4_openDays 57 = .ok (.iload 5, 2) := by decide +kernel
theorem dX4_openDays_59 : decode cX4_openDays 59 = .ok (.isub, 1) := by decide +kernel
theorem dX4_openDays_60 : decode cX4_openDays 60 = .ok (.iadd, 1) := by decide +kernel
theorem dX4_openDays_61 : decode cX4_openDays 61 = .ok (.istore 4, 2) := by decide +kernel
theorem dX4_openDays_63 : decode cX4_openDays 63 = .ok (.iload 7, 2) := by decide +kernel
theorem dX4_openDays_65 : decode cX4_openDays 65 = .ok (.istore 5, 2) := by decide +kernel
theorem dX4_openDays_67 : decode cX4_openDays 67 = .ok (.iinc 6 1, 3) := by decide +kernel
theorem dX4_openDays_70 : decode cX4_openDays 70 = .ok (.goto (-61), 3) := by decide +kernel
theorem dX4_openDays_73 : decode cX4_openDays 73 = .ok (.iload 4, 2) := by decide +kernel
theorem dX4_openDays_75 : decode cX4_openDays 75 = .ok (.ireturn, 1) := by decide +kernel
theorem dX4_shutPast_0 : decode cX4_shutPast 0 = .ok (.iload_n 2, 1) := by decide +kernel
theorem dX4_shutPast_1 : decode cX4_shutPast 1 = .ok (.istore_n 3, 1) := by decide +kernel
theorem dX4_shutPast_2 : decode cX4_shutPast 2 = .ok (.iload_n 1, 1) := by decide +kernel
theorem dX4_shutPast_3 : decode cX4_shutPast 3 = .ok (.bipush 8, 2) := by decide +kernel
theorem dX4_shutPast_5 : decode cX4_shutPast 5 = .ok (.imul, 1) := by decide +kernel
theorem dX4_shutPast_6 : decode cX4_shutPast 6 = .ok (.istore 4, 2) := by decide +kernel
theorem dX4_shutPast_8 : decode cX4_shutPast 8 = .ok (.iload 4, 2) := by decide +kernel
theorem dX4_shutPast_10 : decode cX4_shutPast 10 = .ok (.istore 5, 2) := by decide +kernel
theorem dX4_shutPast_12 : decode cX4_shutPast 12 = .ok (.iload 5, 2) := by decide +kernel
theorem dX4_shutPast_14 : decode cX4_shutPast 14 = .ok (.iload 4, 2) := by decide +kernel
theorem dX4_shutPast_16 : decode cX4_shutPast 16 = .ok (.aload_n 0, 1) := by decide +kernel
theorem dX4_shutPast_17 : decode cX4_shutPast 17 = .ok (.getfield 34, 3) := by decide +kernel
theorem dX4_shutPast_20 : decode cX4_shutPast 20 = .ok (.iload_n 1, 1) := by decide +kernel
theorem dX4_shutPast_21 : decode cX4_shutPast 21 = .ok (.iaload, 1) := by decide +kernel
theorem dX4_shutPast_22 : decode cX4_shutPast 22 = .ok (.iadd, 1) := by decide +kernel
theorem dX4_shutPast_23 : decode cX4_shutPast 23 = .ok (.if_icmp .ge 41, 3) := by decide +kernel
theorem dX4_shutPast_26 : decode cX4_shutPast 26 = .ok (.aload_n 0, 1) := by decide +kernel
theorem dX4_shutPast_27 : decode cX4_shutPast 27 = .ok (.getfield 37, 3) := by decide +kernel
theorem dX4_shutPast_30 : decode cX4_shutPast 30 = .ok (.iload 5, 2) := by decide +kernel
theorem dX4_shutPast_32 : decode cX4_shutPast 32 = .ok (.iaload, 1) := by decide +kernel
theorem dX4_shutPast_33 : decode cX4_shutPast 33 = .ok (.iload_n 2, 1) := by decide +kernel
theorem dX4_shutPast_34 : decode cX4_shutPast 34 = .ok (.if_icmp .gt 24, 3) := by decide +kernel
theorem dX4_shutPast_37 : decode cX4_shutPast 37 = .ok (.aload_n 0, 1) := by decide +kernel
theorem dX4_shutPast_38 : decode cX4_shutPast 38 = .ok (.getfield 40, 3) := by decide +kernel
theorem dX4_shutPast_41 : decode cX4_shutPast 41 = .ok (.iload 5, 2) := by decide +kernel
theorem dX4_shutPast_43 : decode cX4_shutPast 43 = .ok (.iaload, 1) := by decide +kernel
theorem dX4_shutPast_44 : decode cX4_shutPast 44 = .ok (.iload_n 3, 1) := by decide +kernel
theorem dX4_shutPast_45 : decode cX4_shutPast 45 = .ok (.if_icmp .lt 13, 3) := by decide +kernel
theorem dX4_shutPast_48 : decode cX4_shutPast 48 = .ok (.aload_n 0, 1) := by decide +kernel
theorem dX4_shutPast_49 : decode cX4_shutPast 49 = .ok (.getfield 40, 3) := by decide +kernel
theorem dX4_shutPast_52 : decode cX4_shutPast 52 = .ok (.iload 5, 2) := by decide +kernel
theorem dX4_shutPast_54 : decode cX4_shutPast 54 = .ok (.iaload, 1) := by decide +kernel
theorem dX4_shutPast_55 : decode cX4_shutPast 55 = .ok (.iconst 1, 1) := by decide +kernel
theorem dX4_shutPast_56 : decode cX4_shutPast 56 = .ok (.iadd, 1) := by decide +kernel
theorem dX4_shutPast_57 : decode cX4_shutPast 57 = .ok (.istore_n 3, 1) := by decide +kernel
theorem dX4_shutPast_58 : decode cX4_shutPast 58 = .ok (.iinc 5 1, 3) := by decide +kernel
theorem dX4_shutPast_61 : decode cX4_shutPast 61 = .ok (.goto (-49), 3) := by decide +kernel
theorem dX4_shutPast_64 : decode cX4_shutPast 64 = .ok (.iload_n 3, 1) := by decide +kernel
theorem dX4_shutPast_65 : decode cX4_shutPast 65 = .ok (.ireturn, 1) := by decide +kernel
theorem dX4_nextShut_0 : decode cX4_nextShut 0 = .ok (.sipush 1501, 3) := by decide +kernel
theorem dX4_nextShut_3 : decode cX4_nextShut 3 = .ok (.istore_n 3, 1) := by decide +kernel
theorem dX4_nextShut_4 : decode cX4_nextShut 4 = .ok (.iload_n 1, 1) := by decide +kernel
theorem dX4_nextShut_5 : decode cX4_nextShut 5 = .ok (.bipush 8, 2) := by decide +kernel
theorem dX4_nextShut_7 : decode cX4_nextShut 7 = .ok (.imul, 1) := by decide +kernel
theorem dX4_nextShut_8 : decode cX4_nextShut 8 = .ok (.istore 4, 2) := by decide +kernel
theorem dX4_nextShut_10 : decode cX4_nextShut 10 = .ok (.iload 4, 2) := by decide +kernel
theorem dX4_nextShut_12 : decode cX4_nextShut 12 = .ok (.istore 5, 2) := by decide +kernel
theorem dX4_nextShut_14 : decode cX4_nextShut 14 = .ok (.iload 5, 2) := by decide +kernel
theorem dX4_nextShut_16 : decode cX4_nextShut 16 = .ok (.iload 4, 2) := by decide +kernel
theorem dX4_nextShut_18 : decode cX4_nextShut 18 = .ok (.aload_n 0, 1) := by decide +kernel
theorem dX4_nextShut_19 : decode cX4_nextShut 19 = .ok (.getfield 34, 3) := by decide +kernel
theorem dX4_nextShut_22 : decode cX4_nextShut 22 = .ok (.iload_n 1, 1) := by decide +kernel
theorem dX4_nextShut_23 : decode cX4_nextShut 23 = .ok (.iaload, 1) := by decide +kernel
theorem dX4_nextShut_24 : decode cX4_nextShut 24 = .ok (.iadd, 1) := by decide +kernel
theorem dX4_nextShut_25 : decode cX4_nextShut 25 = .ok (.if_icmp .ge 39, 3) := by decide +kernel
theorem dX4_nextShut_28 : decode cX4_nextShut 28 = .ok (.aload_n 0, 1) := by decide +kernel
theorem dX4_nextShut_29 : decode cX4_nextShut 29 = .ok (.getfield 37, 3) := by decide +kernel
theorem dX4_nextShut_32 : decode cX4_nextShut 32 = .ok (.iload 5, 2) := by decide +kernel
theorem dX4_nextShut_34 : decode cX4_nextShut 34 = .ok (.iaload, 1) := by decide +kernel
theorem dX4_nextShut_35 : decode cX4_nextShut 35 = .ok (.iload_n 2, 1) := by decide +kernel
theorem dX4_nextShut_36 : decode cX4_nextShut 36 = .ok (.if_icmp .le 22, 3) := by decide +kernel
theorem dX4_nextShut_39 : decode cX4_nextShut 39 = .ok (.aload_n 0, 1) := by decide +kernel
theorem dX4_nextShut_40 : decode cX4_nextShut 40 = .ok (.getfield 37, 3) := by decide +kernel
theorem dX4_nextShut_43 : decode cX4_nextShut 43 = .ok (.iload 5, 2) := by decide +kernel
theorem dX4_nextShut_45 : decode cX4_nextShut 45 = .ok (.iaload, 1) := by decide +kernel
theorem dX4_nextShut_46 : decode cX4_nextShut 46 = .ok (.iload_n 3, 1) := by decide +kernel
theorem dX4_nextShut_47 : decode cX4_nextShut 47 = .ok (.if_icmp .ge 11, 3) := by decide +kernel
theorem dX4_nextShut_50 : decode cX4_nextShut 50 = .ok (.aload_n 0, 1) := by decide +kernel
theorem dX4_nextShut_51 : decode cX4_nextShut 51 = .ok (.getfield 37, 3) := by decide +kernel
theorem dX4_nextShut_54 : decode cX4_nextShut 54 = .ok (.iload 5, 2) := by decide +kernel
theorem dX4_nextShut_56 : decode cX4_nextShut 56 = .ok (.iaload, 1) := by decide +kernel
theorem dX4_nextShut_57 : decode cX4_nextShut 57 = .ok (.istore_n 3, 1) := by decide +kernel
theorem dX4_nextShut_58 : decode cX4_nextShut 58 = .ok (.iinc 5 1, 3) := by decide +kernel
theorem dX4_nextShut_61 : decode cX4_nextShut 61 = .ok (.goto (-47), 3) := by decide +kernel
theorem dX4_nextShut_64 : decode cX4_nextShut 64 = .ok (.iload_n 3, 1) := by decide +kernel
theorem dX4_nextShut_65 : decode cX4_nextShut 65 = .ok (.ireturn, 1) := by decide +kernel
theorem dX5_init_0 : decode cX5_init 0 = .ok (.aload_n 0, 1) := by decide +kernel
theorem dX5_init_1 : decode cX5_init 1 = .ok (.invokespecial 3, 3) := by decide +kernel
theorem dX5_init_4 : decode cX5_init 4 = .ok (.aload_n 0, 1) := by decide +kernel
theorem dX5_init_5 : decode cX5_init 5 = .ok (.bipush 80, 2) := by decide +kernel
theorem dX5_init_7 : decode cX5_init 7 = .ok (.newarray .int, 2) := by decide +kernel
theorem dX5_init_9 : decode cX5_init 9 = .ok (.putfield 9, 3) := by decide +kernel
theorem dX5_init_12 : decode cX5_init 12 = .ok (.aload_n 0, 1) := by decide +kernel
theorem dX5_init_13 : decode cX5_init 13 = .ok (.bipush 80, 2) := by decide +kernel
theorem dX5_init_15 : decode cX5_init 15 = .ok (.newarray .int, 2) := by decide +kernel
theorem dX5_init_17 : decode cX5_init 17 = .ok (.putfield 15, 3) := by decide +kernel
theorem dX5_init_20 : decode cX5_init 20 = .ok (.aload_n 0, 1) := by decide +kernel
theorem dX5_init_21 : decode cX5_init 21 = .ok (.bipush 80, 2) := by decide +kernel
theorem dX5_init_23 : decode cX5_init 23 = .ok (.newarray .int, 2) := by decide +kernel
theorem dX5_init_25 : decode cX5_init 25 = .ok (.putfield 18, 3) := by decide +kernel
theorem dX5_init_28 : decode cX5_init 28 = .ok (.aload_n 0, 1) := by decide +kernel
theorem dX5_init_29 : decode cX5_init 29 = .ok (.bipush 80, 2) := by decide +kernel
theorem dX5_init_31 : decode cX5_init 31 = .ok (.newarray .int, 2) := by decide +kernel
theorem dX5_init_33 : decode cX5_init 33 = .ok (.putfield 21, 3) := by decide +kernel
theorem dX5_init_36 : decode cX5_init 36 = .ok (.aload_n 0, 1) := by decide +kernel
theorem dX5_init_37 : decode cX5_init 37 = .ok (.bipush 80, 2) := by decide +kernel
theorem dX5_init_39 : decode cX5_init 39 = .ok (.newarray .int, 2) := by decide +kernel
theorem dX5_init_41 : decode cX5_init 41 = .ok (.putfield 24, 3) := by decide +kernel
theorem dX5_init_44 : decode cX5_init 44 = .ok (.aload_n 0, 1) := by decide +kernel
theorem dX5_init_45 : decode cX5_init 45 = .ok (.sipush 3200, 3) := by decide +kernel
theorem dX5_init_48 : decode cX5_init 48 = .ok (.newarray .int, 2) := by decide +kernel
theorem dX5_init_50 : decode cX5_init 50 = .ok (.putfield 27, 3) := by decide +kernel
theorem dX5_init_53 : decode cX5_init 53 = .ok (.aload_n 0, 1) := by decide +kernel
theorem dX5_init_54 : decode cX5_init 54 = .ok (.iconst 5, 1) := by decide +kernel
theorem dX5_init_55 : decode cX5_init 55 = .ok (.newarray .int, 2) := by decide +kernel
theorem dX5_init_57 : decode cX5_init 57 = .ok (.putfield 30, 3) := by decide +kernel
theorem dX5_init_60 : decode cX5_init 60 = .ok (.aload_n 0, 1) := by decide +kernel
theorem dX5_init_61 : decode cX5_init 61 = .ok (.iconst 0, 1) := by decide +kernel
theorem dX5_init_62 : decode cX5_init 62 = .ok (.putfield 33, 3) := by decide +kernel
theorem dX5_init_65 : decode cX5_init 65 = .ok (.aload_n 0, 1) := by decide +kernel
theorem dX5_init_66 : decode cX5_init 66 = .ok (.iconst 0, 1) := by decide +kernel
theorem dX5_init_67 : decode cX5_init 67 = .ok (.putfield 37, 3) := by decide +kernel
theorem dX5_init_70 : decode cX5_init 70 = .ok (.aload_n 0, 1) := by decide +kernel
theorem dX5_init_71 : decode cX5_init 71 = .ok (.aload_n 1, 1) := by decide +kernel
theorem dX5_init_72 : decode cX5_init 72 = .ok (.putfield 40, 3) := by decide +kernel
theorem dX5_init_75 : decode cX5_init 75 = .ok (.aload_n 0, 1) := by decide +kernel
theorem dX5_init_76 : decode cX5_init 76 = .ok (.getfield 24, 3) := by decide +kernel
theorem dX5_init_79 : decode cX5_init 79 = .ok (.sipush 1501, 3) := by decide +kernel
theorem dX5_init_82 : decode cX5_init 82 = .ok (.invokestatic 44, 3) := by decide +kernel
theorem dX5_init_85 : decode cX5_init 85 = .ok (.return_, 1) := by decide +kernel
theorem dX5_size_0 : decode cX5_size 0 = .ok (.aload_n 0, 1) := by decide +kernel
theorem dX5_size_1 : decode cX5_size 1 = .ok (.getfield 33, 3) := by decide +kernel
theorem dX5_size_4 : decode cX5_size 4 = .ok (.ireturn, 1) := by decide +kernel
theorem dX5_takenBackSize_0 : decode cX5_takenBackSize 0 = .ok (.aload_n 0, 1) := by decide +kernel
theorem dX5_takenBackSize_1 : decode cX5_takenBackSize 1 = .ok (.getfield 37, 3) := by decide +kernel
theorem dX5_takenBackSize_4 : decode cX5_takenBackSize 4 = .ok (.ireturn, 1) := by decide +kernel
theorem dX5_isFull_0 : decode cX5_isFull 0 = .ok (.aload_n 0, 1) := by decide +kernel
theorem dX5_isFull_1 : decode cX5_isFull 1 = .ok (.getfield 33, 3) := by decide +kernel
theorem dX5_isFull_4 : decode cX5_isFull 4 = .ok (.bipush 80, 2) := by decide +kernel
theorem dX5_isFull_6 : decode cX5_isFull 6 = .ok (.if_icmp .lt 7, 3) := by decide +kernel
theorem dX5_isFull_9 : decode cX5_isFull 9 = .ok (.iconst 1, 1) := by decide +kernel
theorem dX5_isFull_10 : decode cX5_isFull 10 = .ok (.goto 4, 3) := by decide +kernel
theorem dX5_isFull_13 : decode cX5_isFull 13 = .ok (.iconst 0, 1) := by decide +kernel
theorem dX5_isFull_14 : decode cX5_isFull 14 = .ok (.ireturn, 1) := by decide +kernel
theorem dX5_has_0 : decode cX5_has 0 = .ok (.iload_n 1, 1) := by decide +kernel
theorem dX5_has_1 : decode cX5_has 1 = .ok (.ifCond .lt 15, 3) := by decide +kernel
theorem dX5_has_4 : decode cX5_has 4 = .ok (.iload_n 1, 1) := by decide +kernel
theorem dX5_has_5 : decode cX5_has 5 = .ok (.aload_n 0, 1) := by decide +kernel
theorem dX5_has_6 : decode cX5_has 6 = .ok (.getfield 33, 3) := by decide +kernel
theorem dX5_has_9 : decode cX5_has 9 = .ok (.if_icmp .ge 7, 3) := by decide +kernel
theorem dX5_has_12 : decode cX5_has 12 = .ok (.iconst 1, 1) := by decide +kernel
theorem dX5_has_13 : decode cX5_has 13 = .ok (.goto 4, 3) := by decide +kernel
theorem dX5_has_16 : decode cX5_has 16 = .ok (.iconst 0, 1) := by decide +kernel
theorem dX5_has_17 : decode cX5_has 17 = .ok (.ireturn, 1) := by decide +kernel
theorem dX5_add_0 : decode cX5_add 0 = .ok (.aload_n 0, 1) := by decide +kernel
theorem dX5_add_1 : decode cX5_add 1 = .ok (.getfield 9, 3) := by decide +kernel
theorem dX5_add_4 : decode cX5_add 4 = .ok (.aload_n 0, 1) := by decide +kernel
theorem dX5_add_5 : decode cX5_add 5 = .ok (.getfield 33, 3) := by decide +kernel
theorem dX5_add_8 : decode cX5_add 8 = .ok (.iload_n 1, 1) := by decide +kernel
theorem dX5_add_9 : decode cX5_add 9 = .ok (.iastore, 1) := by decide +kernel
theorem dX5_add_10 : decode cX5_add 10 = .ok (.aload_n 0, 1) := by decide +kernel
theorem dX5_add_11 : decode cX5_add 11 = .ok (.getfield 15, 3) := by decide +kernel
theorem dX5_add_14 : decode cX5_add 14 = .ok (.aload_n 0, 1) := by decide +kernel
theorem dX5_add_15 : decode cX5_add 15 = .ok (.getfield 33, 3) := by decide +kernel
theorem dX5_add_18 : decode cX5_add 18 = .ok (.iload_n 2, 1) := by decide +kernel
theorem dX5_add_19 : decode cX5_add 19 = .ok (.iastore, 1) := by decide +kernel
theorem dX5_add_20 : decode cX5_add 20 = .ok (.aload_n 0, 1) := by decide +kernel
theorem dX5_add_21 : decode cX5_add 21 = .ok (.getfield 18, 3) := by decide +kernel
theorem dX5_add_24 : decode cX5_add 24 = .ok (.aload_n 0, 1) := by decide +kernel
theorem dX5_add_25 : decode cX5_add 25 = .ok (.getfield 33, 3) := by decide +kernel
theorem dX5_add_28 : decode cX5_add 28 = .ok (.iload_n 3, 1) := by decide +kernel
theorem dX5_add_29 : decode cX5_add 29 = .ok (.iastore, 1) := by decide +kernel
theorem dX5_add_30 : decode cX5_add 30 = .ok (.aload_n 0, 1) := by decide +kernel
theorem dX5_add_31 : decode cX5_add 31 = .ok (.getfield 21, 3) := by decide +kernel
theorem dX5_add_34 : decode cX5_add 34 = .ok (.aload_n 0, 1) := by decide +kernel
theorem dX5_add_35 : decode cX5_add 35 = .ok (.getfield 33, 3) := by decide +kernel
theorem dX5_add_38 : decode cX5_add 38 = .ok (.iload 4, 2) := by decide +kernel
theorem dX5_add_40 : decode cX5_add 40 = .ok (.iastore, 1) := by decide +kernel
theorem dX5_add_41 : decode cX5_add 41 = .ok (.aload_n 0, 1) := by decide +kernel
theorem dX5_add_42 : decode cX5_add 42 = .ok (.dup, 1) := by decide +kernel
theorem dX5_add_43 : decode cX5_add 43 = .ok (.getfield 33, 3) := by decide +kernel
theorem dX5_add_46 : decode cX5_add 46 = .ok (.dup_x1, 1) := by decide +kernel
theorem dX5_add_47 : decode cX5_add 47 = .ok (.iconst 1, 1) := by decide +kernel
theorem dX5_add_48 : decode cX5_add 48 = .ok (.iadd, 1) := by decide +kernel
theorem dX5_add_49 : decode cX5_add 49 = .ok (.putfield 33, 3) := by decide +kernel
theorem dX5_add_52 : decode cX5_add 52 = .ok (.ireturn, 1) := by decide +kernel
theorem dX5_kitchenOf_0 : decode cX5_kitchenOf 0 = .ok (.aload_n 0, 1) := by decide +kernel
theorem dX5_kitchenOf_1 : decode cX5_kitchenOf 1 = .ok (.getfield 9, 3) := by decide +kernel
theorem dX5_kitchenOf_4 : decode cX5_kitchenOf 4 = .ok (.iload_n 1, 1) := by decide +kernel
theorem dX5_kitchenOf_5 : decode cX5_kitchenOf 5 = .ok (.iaload, 1) := by decide +kernel
theorem dX5_kitchenOf_6 : decode cX5_kitchenOf 6 = .ok (.ireturn, 1) := by decide +kernel
theorem dX5_inspectorOf_0 : decode cX5_inspectorOf 0 = .ok (.aload_n 0, 1) := by decide +kernel
theorem dX5_inspectorOf_1 : decode cX5_inspectorOf 1 = .ok (.getfield 15, 3) := by decide +kernel
theorem dX5_inspectorOf_4 : decode cX5_inspectorOf 4 = .ok (.iload_n 1, 1) := by decide +kernel
theorem dX5_inspectorOf_5 : decode cX5_inspectorOf 5 = .ok (.iaload, 1) := by decide +kernel
theorem dX5_inspectorOf_6 : decode cX5_inspectorOf 6 = .ok (.ireturn, 1) := by decide +kernel
theorem dX5_dayOf_0 : decode cX5_dayOf 0 = .ok (.aload_n 0, 1) := by decide +kernel
theorem dX5_dayOf_1 : decode cX5_dayOf 1 = .ok (.getfield 18, 3) := by decide +kernel
theorem dX5_dayOf_4 : decode cX5_dayOf 4 = .ok (.iload_n 1, 1) := by decide +kernel
theorem dX5_dayOf_5 : decode cX5_dayOf 5 = .ok (.iaload, 1) := by decide +kernel
theorem dX5_dayOf_6 : decode cX5_dayOf 6 = .ok (.ireturn, 1) := by decide +kernel
theorem dX5_isTakenBack_0 : decode cX5_isTakenBack 0 = .ok (.aload_n 0, 1) := by decide +kernel
theorem dX5_isTakenBack_1 : decode cX5_isTakenBack 1 = .ok (.getfield 24, 3) := by decide +kernel
theorem dX5_isTakenBack_4 : decode cX5_isTakenBack 4 = .ok (.iload_n 1, 1) := by decide +kernel
theorem dX5_isTakenBack_5 : decode cX5_isTakenBack 5 = .ok (.iaload, 1) := by decide +kernel
theorem dX5_isTakenBack_6 : decode cX5_isTakenBack 6 = .ok (.sipush 1501, 3) := by decide +kernel
theorem dX5_isTakenBack_9 : decode cX5_isTakenBack 9 = .ok (.if_icmp .ge 7, 3) := by decide +kernel
theorem dX5_isTakenBack_12 : decode cX5_isTakenBack 12 = .ok (.iconst 1, 1) := by decide +kernel
theorem dX5_isTakenBack_13 : decode cX5_isTakenBack 13 = .ok (.goto 4, 3) := by decide +kernel
theorem dX5_isTakenBack_16 : decode cX5_isTakenBack 16 = .ok (.iconst 0, 1) := by decide +kernel
theorem dX5_isTakenBack_17 : decode cX5_isTakenBack 17 = .ok (.ireturn, 1) := by decide +kernel
theorem dX5_takeBack_0 : decode cX5_takeBack 0 = .ok (.aload_n 0, 1) := by decide +kernel
theorem dX5_takeBack_1 : decode cX5_takeBack 1 = .ok (.getfield 24, 3) := by decide +kernel
theorem dX5_takeBack_4 : decode cX5_takeBack 4 = .ok (.iload_n 1, 1) := by decide +kernel
theorem dX5_takeBack_5 : decode cX5_takeBack 5 = .ok (.iload_n 2, 1) := by decide +kernel
theorem dX5_takeBack_6 : decode cX5_takeBack 6 = .ok (.iastore, 1) := by decide +kernel
theorem dX5_takeBack_7 : decode cX5_takeBack 7 = .ok (.aload_n 0, 1) := by decide +kernel
theorem dX5_takeBack_8 : decode cX5_takeBack 8 = .ok (.dup, 1) := by decide +kernel
theorem dX5_takeBack_9 : decode cX5_takeBack 9 = .ok (.getfield 37, 3) := by decide +kernel
theorem dX5_takeBack_12 : decode cX5_takeBack 12 = .ok (.iconst 1, 1) := by decide +kernel
theorem dX5_takeBack_13 : decode cX5_takeBack 13 = .ok (.iadd, 1) := by decide +kernel
theorem dX5_takeBack_14 : decode cX5_takeBack 14 = .ok (.putfield 37, 3) := by decide +kernel
theorem dX5_takeBack_17 : decode cX5_takeBack 17 = .ok (.return_, 1) := by decide +kernel
theorem dX5_timesFound_0 : decode cX5_timesFound 0 = .ok (.aload_n 0, 1) := by decide +kernel
theorem dX5_timesFound_1 : decode cX5_timesFound 1 = .ok (.getfield 27, 3) := by decide +kernel
theorem dX5_timesFound_4 : decode cX5_timesFound 4 = .ok (.iload_n 1, 1) := by decide +kernel
theorem dX5_timesFound_5 : decode cX5_timesFound 5 = .ok (.bipush 40, 2) := by decide +kernel
theorem dX5_timesFound_7 : decode cX5_timesFound 7 = .ok (.imul, 1) := by decide +kernel
theorem dX5_timesFound_8 : decode cX5_timesFound 8 = .ok (.iload_n 2, 1) := by decide +kernel
theorem dX5_timesFound_9 : decode cX5_timesFound 9 = .ok (.iadd, 1) := by decide +kernel
theorem dX5_timesFound_10 : decode cX5_timesFound 10 = .ok (.iaload, 1) := by decide +kernel
theorem dX5_timesFound_11 : decode cX5_timesFound 11 = .ok (.ireturn, 1) := by decide +kernel
theorem dX5_addFound_0 : decode cX5_addFound 0 = .ok (.iload_n 1, 1) := by decide +kernel
theorem dX5_addFound_1 : decode cX5_addFound 1 = .ok (.bipush 40, 2) := by decide +kernel
theorem dX5_addFound_3 : decode cX5_addFound 3 = .ok (.imul, 1) := by decide +kernel
theorem dX5_addFound_4 : decode cX5_addFound 4 = .ok (.iload_n 2, 1) := by decide +kernel
theorem dX5_addFound_5 : decode cX5_addFound 5 = .ok (.iadd, 1) := by decide +kernel
theorem dX5_addFound_6 : decode cX5_addFound 6 = .ok (.istore 4, 2) := by decide +kernel
theorem dX5_addFound_8 : decode cX5_addFound 8 = .ok (.aload_n 0, 1) := by decide +kernel
theorem dX5_addFound_9 : decode cX5_addFound 9 = .ok (.getfield 27, 3) := by decide +kernel
theorem dX5_addFound_12 : decode cX5_addFound 12 = .ok (.iload 4, 2) := by decide +kernel
theorem dX5_addFound_14 : decode cX5_addFound 14 = .ok (.dup2, 1) := by decide +kernel
theorem dX5_addFound_15 : decode cX5_addFound 15 = .ok (.iaload, 1) := by decide +kernel
theorem dX5_addFound_16 : decode cX5_addFound 16 = .ok (.iload_n 3, 1) := by decide +kernel
theorem dX5_addFound_17 : decode cX5_addFound 17 = .ok (.iadd, 1) := by decide +kernel
theorem dX5_addFound_18 : decode cX5_addFound 18 = .ok (.iastore, 1) := by decide +kernel
theorem dX5_addFound_19 : decode cX5_addFound 19 = .ok (.aload_n 0, 1) := by decide +kernel
theorem dX5_addFound_20 : decode cX5_addFound 20 = .ok (.getfield 27, 3) := by decide +kernel
theorem dX5_addFound_23 : decode cX5_addFound 23 = .ok (.iload 4, 2) := by decide +kernel
theorem dX5_addFound_25 : decode cX5_addFound 25 = .ok (.iaload, 1) := by decide +kernel
theorem dX5_addFound_26 : decode cX5_addFound 26 = .ok (.ireturn, 1) := by decide +kernel
theorem dX5_latestOf_0 : decode cX5_latestOf 0 = .ok (.iconst (-1), 1) := by decide +kernel
theorem dX5_latestOf_1 : decode cX5_latestOf 1 = .ok (.istore 4, 2) := by decide +kernel
theorem dX5_latestOf_3 : decode cX5_latestOf 3 = .ok (.iconst 0, 1) := by decide +kernel
theorem dX5_latestOf_4 : decode cX5_latestOf 4 = .ok (.istore 5, 2) := by decide +kernel
theorem dX5_latestOf_6 : decode cX5_latestOf 6 = .ok (.iconst 0, 1) := by decide +kernel
theorem dX5_latestOf_7 : decode cX5_latestOf 7 = .ok (.istore 6, 2) := by decide +kernel
theorem dX5_latestOf_9 : decode cX5_latestOf 9 = .ok (.iload 6, 2) := by decide +kernel
theorem dX5_latestOf_11 : decode cX5_latestOf 11 = .ok (.aload_n 0, 1) := by decide +kernel
theorem dX5_latestOf_12 : decode cX5_latestOf 12 = .ok (.getfield 33, 3) := by decide +kernel
theorem dX5_latestOf_15 : decode cX5_latestOf 15 = .ok (.if_icmp .ge 90, 3) := by decide +kernel
theorem dX5_latestOf_18 : decode cX5_latestOf 18 = .ok (.aload_n 0, 1) := by decide +kernel
theorem dX5_latestOf_19 : decode cX5_latestOf 19 = .ok (.getfield 21, 3) := by decide +kernel
theorem dX5_latestOf_22 : decode cX5_latestOf 22 = .ok (.iload 6, 2) := by decide +kernel
theorem dX5_latestOf_24 : decode cX5_latestOf 24 = .ok (.iaload, 1) := by decide +kernel
theorem dX5_latestOf_25 : decode cX5_latestOf 25 = .ok (.iload_n 3, 1) := by decide +kernel
theorem dX5_latestOf_26 : decode cX5_latestOf 26 = .ok (.if_icmp .gt 18, 3) := by decide +kernel
theorem dX5_latestOf_29 : decode cX5_latestOf 29 = .ok (.aload_n 0, 1) := by decide +kernel
theorem dX5_latestOf_30 : decode cX5_latestOf 30 = .ok (.getfield 24, 3) := by decide +kernel
theorem dX5_latestOf_33 : decode cX5_latestOf 33 = .ok (.iload 6, 2) := by decide +kernel
theorem dX5_latestOf_35 : decode cX5_latestOf 35 = .ok (.iaload, 1) := by decide +kernel
theorem dX5_latestOf_36 : decode cX5_latestOf 36 = .ok (.iload_n 3, 1) := by decide +kernel
theorem dX5_latestOf_37 : decode cX5_latestOf 37 = .ok (.if_icmp .le 7, 3) := by decide +kernel
theorem dX5_latestOf_40 : decode cX5_latestOf 40 = .ok (.iconst 1, 1) := by decide +kernel
theorem dX5_latestOf_41 : decode cX5_latestOf 41 = .ok (.goto 4, 3) := by decide +kernel
theorem dX5_latestOf_44 : decode cX5_latestOf 44 = .ok (.iconst 0, 1) := by decide +kernel
theorem dX5_latestOf_45 : decode cX5_latestOf 45 = .ok (.istore 7, 2) := by decide +kernel
theorem dX5_latestOf_47 : decode cX5_latestOf 47 = .ok (.iload 7, 2) := by decide +kernel
theorem dX5_latestOf_49 : decode cX5_latestOf 49 = .ok (.ifCond .eq 50, 3) := by decide +kernel
theorem dX5_latestOf_52 : decode cX5_latestOf 52 = .ok (.aload_n 0, 1) := by decide +kernel
theorem dX5_latestOf_53 : decode cX5_latestOf 53 = .ok (.getfield 9, 3) := by decide +kernel
theorem dX5_latestOf_56 : decode cX5_latestOf 56 = .ok (.iload 6, 2) := by decide +kernel
theorem dX5_latestOf_58 : decode cX5_latestOf 58 = .ok (.iaload, 1) := by decide +kernel
theorem dX5_latestOf_59 : decode cX5_latestOf 59 = .ok (.iload_n 1, 1) := by decide +kernel
theorem dX5_latestOf_60 : decode cX5_latestOf 60 = .ok (.if_icmp .ne 39, 3) := by decide +kernel
theorem dX5_latestOf_63 : decode cX5_latestOf 63 = .ok (.aload_n 0, 1) := by decide +kernel
theorem dX5_latestOf_64 : decode cX5_latestOf 64 = .ok (.getfield 18, 3) := by decide +kernel
theorem dX5_latestOf_67 : decode cX5_latestOf 67 = .ok (.iload 6, 2) := by decide +kernel
theorem dX5_latestOf_69 : decode cX5_latestOf 69 = .ok (.iaload, 1) := by decide +kernel
theorem dX5_latestOf_70 : decode cX5_latestOf 70 = .ok (.iload_n 2, 1) := by decide +kernel
theorem dX5_latestOf_71 : decode cX5_latestOf 71 = .ok (.if_icmp .gt 28, 3) := by decide +kernel
theorem dX5_latestOf_74 : decode cX5_latestOf 74 = .ok (.aload_n 0, 1) := by decide +kernel
theorem dX5_latestOf_75 : decode cX5_latestOf 75 = .ok (.getfield 18, 3) := by decide +kernel
theorem dX5_latestOf_78 : decode cX5_latestOf 78 = .ok (.iload 6, 2) := by decide +kernel
theorem dX5_latestOf_80 : decode cX5_latestOf 80 = .ok (.iaload, 1) := by decide +kernel
theorem dX5_latestOf_81 : decode cX5_latestOf 81 = .ok (.iload 5, 2) := by decide +kernel
theorem dX5_latestOf_83 : decode cX5_latestOf 83 = .ok (.if_icmp .lt 16, 3) := by decide +kernel
theorem dX5_latestOf_86 : decode cX5_latestOf 86 = .ok (.iload 6, 2) := by decide +kernel
theorem dX5_latestOf_88 : decode cX5_latestOf 88 = .ok (.istore 4, 2) := by decide +kernel
theorem dX5_latestOf_90 : decode cX5_latestOf 90 = .ok (.aload_n 0, 1) := by decide +kernel
theorem dX5_latestOf_91 : decode cX5_latestOf 91 = .ok (.getfield 18, 3) := by decide +kernel
theorem dX5_latestOf_94 : decode cX5_latestOf 94 = .ok (.iload 6, 2) := by decide +kernel
theorem dX5_latestOf_96 : decode cX5_latestOf 96 = .ok (.iaload, 1) := by decide +kernel
theorem dX5_latestOf_97 : decode cX5_latestOf 97 = .ok (.istore 5, 2) := by decide +kernel
theorem dX5_latestOf_99 : decode cX5_latestOf 99 = .ok (.iinc 6 1, 3) := by decide +kernel
theorem dX5_latestOf_102 : decode cX5_latestOf 102 = .ok (.goto (-93), 3) := by decide +kernel
theorem dX5_latestOf_105 : decode cX5_latestOf 105 = .ok (.iload 4, 2) := by decide +kernel
theorem dX5_latestOf_107 : decode cX5_latestOf 107 = .ok (.ireturn, 1) := by decide +kernel
theorem dX5_ownScore_0 : decode cX5_ownScore 0 = .ok (.aload_n 0, 1) := by decide +kernel
theorem dX5_ownScore_1 : decode cX5_ownScore 1 = .ok (.iload_n 1, 1) := by decide +kernel
theorem dX5_ownScore_2 : decode cX5_ownScore 2 = .ok (.aload_n 0, 1) := by decide +kernel
theorem dX5_ownScore_3 : decode cX5_ownScore 3 = .ok (.getfield 18, 3) := by decide +kernel
theorem dX5_ownScore_6 : decode cX5_ownScore 6 = .ok (.iload_n 1, 1) := by decide +kernel
theorem dX5_ownScore_7 : decode cX5_ownScore 7 = .ok (.iaload, 1) := by decide +kernel
theorem dX5_ownScore_8 : decode cX5_ownScore 8 = .ok (.invokevirtual 50, 3) := by decide +kernel
theorem dX5_ownScore_11 : decode cX5_ownScore 11 = .ok (.ireturn, 1) := by decide +kernel
theorem dX5_scoreOn_0 : decode cX5_scoreOn 0 = .ok (.aload_n 0, 1) := by decide +kernel
theorem dX5_scoreOn_1 : decode cX5_scoreOn 1 = .ok (.getfield 30, 3) := by decide +kernel
theorem dX5_scoreOn_4 : decode cX5_scoreOn 4 = .ok (.iconst 0, 1) := by decide +kernel
theorem dX5_scoreOn_5 : decode cX5_scoreOn 5 = .ok (.invokestatic 44, 3) := by decide +kernel
theorem dX5_scoreOn_8 : decode cX5_scoreOn 8 = .ok (.iconst 0, 1) := by decide +kernel
theorem dX5_scoreOn_9 : decode cX5_scoreOn 9 = .ok (.istore_n 3, 1) := by decide +kernel
theorem dX5_scoreOn_10 : decode cX5_scoreOn 10 = .ok (.iload_n 3, 1) := by decide +kernel
theorem dX5_scoreOn_11 : decode cX5_scoreOn 11 = .ok (.aload_n 0, 1) := by decide +kernel
theorem dX5_scoreOn_12 : decode cX5_scoreOn 12 = .ok (.getfield 40, 3) := by decide +kernel
theorem dX5_scoreOn_15 : decode cX5_scoreOn 15 = .ok (.invokevirtual 54, 3) := by decide +kernel
theorem dX5_scoreOn_18 : decode cX5_scoreOn 18 = .ok (.if_icmp .ge 62, 3) := by decide +kernel
theorem dX5_scoreOn_21 : decode cX5_scoreOn 21 = .ok (.aload_n 0, 1) := by decide +kernel
theorem dX5_scoreOn_22 : decode cX5_scoreOn 22 = .ok (.iload_n 1, 1) := by decide +kernel
theorem dX5_scoreOn_23 : decode cX5_scoreOn 23 = .ok (.iload_n 3, 1) := by decide +kernel
theorem dX5_scoreOn_24 : decode cX5_scoreOn 24 = .ok (.invokevirtual 59, 3) := by decide +kernel
theorem dX5_scoreOn_27 : decode cX5_scoreOn 27 = .ok (.istore 4, 2) := by decide +kernel
theorem dX5_scoreOn_29 : decode cX5_scoreOn 29 = .ok (.iload 4, 2) := by decide +kernel
theorem dX5_scoreOn_31 : decode cX5_scoreOn 31 = .ok (.ifCond .le 43, 3) := by decide +kernel
theorem dX5_scoreOn_34 : decode cX5_scoreOn 34 = .ok (.aload_n 0, 1) := by decide +kernel
theorem dX5_scoreOn_35 : decode cX5_scoreOn 35 = .ok (.getfield 40, 3) := by decide +kernel
theorem dX5_scoreOn_38 : decode cX5_scoreOn 38 = .ok (.iload_n 3, 1) := by decide +kernel
theorem dX5_scoreOn_39 : decode cX5_scoreOn 39 = .ok (.iload_n 2, 1) := by decide +kernel
theorem dX5_scoreOn_40 : decode cX5_scoreOn 40 = .ok (.invokevirtual 62, 3) := by decide +kernel
theorem dX5_scoreOn_43 : decode cX5_scoreOn 43 = .ok (.istore 5, 2) := by decide +kernel
theorem dX5_scoreOn_45 : decode cX5_scoreOn 45 = .ok (.aload_n 0, 1) := by decide +kernel
theorem dX5_scoreOn_46 : decode cX5_scoreOn 46 = .ok (.getfield 30, 3) := by decide +kernel
theorem dX5_scoreOn_49 : decode cX5_scoreOn 49 = .ok (.aload_n 0, 1) := by decide +kernel
theorem dX5_scoreOn_50 : decode cX5_scoreOn 50 = .ok (.getfield 40, 3) := by decide +kernel
theorem dX5_scoreOn_53 : decode cX5_scoreOn 53 = .ok (.iload 5, 2) := by decide +kernel
theorem dX5_scoreOn_55 : decode cX5_scoreOn 55 = .ok (.invokevirtual 65, 3) := by decide +kernel
theorem dX5_scoreOn_58 : decode cX5_scoreOn 58 = .ok (.dup2, 1) := by decide +kernel
theorem dX5_scoreOn_59 : decode cX5_scoreOn 59 = .ok (.iaload, 1) := by decide +kernel
theorem dX5_scoreOn_60 : decode cX5_scoreOn 60 = .ok (.aload_n 0, 1) := by decide +kernel
theorem dX5_scoreOn_61 : decode cX5_scoreOn 61 = .ok (.getfield 40, 3) := by decide +kernel
theorem dX5_scoreOn_64 : decode cX5_scoreOn 64 = .ok (.iload 5, 2) := by decide +kernel
theorem dX5_scoreOn_66 : decode cX5_scoreOn 66 = .ok (.invokevirtual 69, 3) := by decide +kernel
theorem dX5_scoreOn_69 : decode cX5_scoreOn 69 = .ok (.iload 4, 2) := by decide +kernel
theorem dX5_scoreOn_71 : decode cX5_scoreOn 71 = .ok (.imul, 1) := by decide +kernel
theorem dX5_scoreOn_72 : decode cX5_scoreOn 72 = .ok (.iadd, 1) := by decide +kernel
theorem dX5_scoreOn_73 : decode cX5_scoreOn 73 = .ok (.iastore, 1) := by decide +kernel
theorem dX5_scoreOn_74 : decode cX5_scoreOn 74 = .ok (.iinc 3 1, 3) := by decide +kernel
theorem dX5_scoreOn_77 : decode cX5_scoreOn 77 = .ok (.goto (-67), 3) := by decide +kernel
theorem dX5_scoreOn_80 : decode cX5_scoreOn 80 = .ok (.iconst 0, 1) := by decide +kernel
theorem dX5_scoreOn_81 : decode cX5_scoreOn 81 = .ok (.istore_n 3, 1) := by decide +kernel
theorem dX5_scoreOn_82 : decode cX5_scoreOn 82 = .ok (.iconst 0, 1) := by decide +kernel
theorem dX5_scoreOn_83 : decode cX5_scoreOn 83 = .ok (.istore 4, 2) := by decide +kernel
theorem dX5_scoreOn_85 : decode cX5_scoreOn 85 = .ok (.iload 4, 2) := by decide +kernel
theorem dX5_scoreOn_87 : decode cX5_scoreOn 87 = .ok (.iconst 5, 1) := by decide +kernel
theorem dX5_scoreOn_88 : decode cX5_scoreOn 88 = .ok (.if_icmp .ge 31, 3) := by decide +kernel
theorem dX5_scoreOn_91 : decode cX5_scoreOn 91 = .ok (.iload_n 3, 1) := by decide +kernel
theorem dX5_scoreOn_92 : decode cX5_scoreOn 92 = .ok (.aload_n 0, 1) := by decide +kernel
theorem dX5_scoreOn_93 : decode cX5_scoreOn 93 = .ok (.getfield 30, 3) := by decide +kernel
theorem dX5_scoreOn_96 : decode cX5_scoreOn 96 = .ok (.iload 4, 2) := by decide +kernel
theorem dX5_scoreOn_98 : decode cX5_scoreOn 98 = .ok (.iaload, 1) := by decide +kernel
theorem dX5_scoreOn_99 : decode cX5_scoreOn 99 = .ok (.aload_n 0, 1) := by decide +kernel
theorem dX5_scoreOn_100 : decode cX5_scoreOn 100 = .ok (.getfield 40, 3) := by decide +kernel
theorem dX5_scoreOn_103 : decode cX5_scoreOn 103 = .ok (.iload 4, 2) := by decide +kernel
theorem dX5_scoreOn_105 : decode cX5_scoreOn 105 = .ok (.invokevirtual 72, 3) := by decide +kernel
theorem dX5_scoreOn_108 : decode cX5_scoreOn 108 = .ok (.invokestatic 75, 3) := by decide +kernel
theorem dX5_scoreOn_111 : decode cX5_scoreOn 111 = .ok (.iadd, 1) := by decide +kernel
theorem dX5_scoreOn_112 : decode cX5_scoreOn 112 = .ok (.istore_n 3, 1) := by decide +kernel
theorem dX5_scoreOn_113 : decode cX5_scoreOn 113 = .ok (.iinc 4 1, 3) := by decide +kernel
theorem dX5_scoreOn_116 : decode cX5_scoreOn 116 = .ok (.goto (-31), 3) := by decide +kernel
theorem dX5_scoreOn_119 : decode cX5_scoreOn 119 = .ok (.iload_n 3, 1) := by decide +kernel
theorem dX5_scoreOn_120 : decode cX5_scoreOn 120 = .ok (.ireturn, 1) := by decide +kernel
theorem dX6_init_0 : decode cX6_init 0 = .ok (.aload_n 0, 1) := by decide +kernel
theorem dX6_init_1 : decode cX6_init 1 = .ok (.invokespecial 3, 3) := by decide +kernel
theorem dX6_init_4 : decode cX6_init 4 = .ok (.aload_n 0, 1) := by decide +kernel
theorem dX6_init_5 : decode cX6_init 5 = .ok (.bipush 10, 2) := by decide +kernel
theorem dX6_init_7 : decode cX6_init 7 = .ok (.newarray .int, 2) := by decide +kernel
theorem dX6_init_9 : decode cX6_init 9 = .ok (.putfield 9, 3) := by decide +kernel
theorem dX6_init_12 : decode cX6_init 12 = .ok (.aload_n 0, 1) := by decide +kernel
theorem dX6_init_13 : decode cX6_init 13 = .ok (.bipush 40, 2) := by decide +kernel
theorem dX6_init_15 : decode cX6_init 15 = .ok (.newarray .int, 2) := by decide +kernel
theorem dX6_init_17 : decode cX6_init 17 = .ok (.putfield 15, 3) := by decide +kernel
theorem dX6_init_20 : decode cX6_init 20 = .ok (.aload_n 0, 1) := by decide +kernel
theorem dX6_init_21 : decode cX6_init 21 = .ok (.iconst 0, 1) := by decide +kernel
theorem dX6_init_22 : decode cX6_init 22 = .ok (.putfield 18, 3) := by decide +kernel
theorem dX6_init_25 : decode cX6_init 25 = .ok (.return_, 1) := by decide +kernel
theorem dX6_size_0 : decode cX6_size 0 = .ok (.aload_n 0, 1) := by decide +kernel
theorem dX6_size_1 : decode cX6_size 1 = .ok (.getfield 18, 3) := by decide +kernel
theorem dX6_size_4 : decode cX6_size 4 = .ok (.ireturn, 1) := by decide +kernel
theorem dX6_isFull_0 : decode cX6_isFull 0 = .ok (.aload_n 0, 1) := by decide +kernel
theorem dX6_isFull_1 : decode cX6_isFull 1 = .ok (.getfield 18, 3) := by decide +kernel
theorem dX6_isFull_4 : decode cX6_isFull 4 = .ok (.bipush 10, 2) := by decide +kernel
theorem dX6_isFull_6 : decode cX6_isFull 6 = .ok (.if_icmp .lt 7, 3) := by decide +kernel
theorem dX6_isFull_9 : decode cX6_isFull 9 = .ok (.iconst 1, 1) := by decide +kernel
theorem dX6_isFull_10 : decode cX6_isFull 10 = .ok (.goto 4, 3) := by decide +kernel
theorem dX6_isFull_13 : decode cX6_isFull 13 = .ok (.iconst 0, 1) := by decide +kernel
theorem dX6_isFull_14 : decode cX6_isFull 14 = .ok (.ireturn, 1) := by decide +kernel
theorem dX6_add_0 : decode cX6_add 0 = .ok (.aload_n 0, 1) := by decide +kernel
theorem dX6_add_1 : decode cX6_add 1 = .ok (.getfield 18, 3) := by decide +kernel
theorem dX6_add_4 : decode cX6_add 4 = .ok (.iconst 4, 1) := by decide +kernel
theorem dX6_add_5 : decode cX6_add 5 = .ok (.imul, 1) := by decide +kernel
theorem dX6_add_6 : decode cX6_add 6 = .ok (.istore 6, 2) := by decide +kernel
theorem dX6_add_8 : decode cX6_add 8 = .ok (.aload_n 0, 1) := by decide +kernel
theorem dX6_add_9 : decode cX6_add 9 = .ok (.getfield 9, 3) := by decide +kernel
theorem dX6_add_12 : decode cX6_add 12 = .ok (.aload_n 0, 1) := by decide +kernel
theorem dX6_add_13 : decode cX6_add 13 = .ok (.getfield 18, 3) := by decide +kernel
theorem dX6_add_16 : decode cX6_add 16 = .ok (.iload_n 1, 1) := by decide +kernel
theorem dX6_add_17 : decode cX6_add 17 = .ok (.iastore, 1) := by decide +kernel
theorem dX6_add_18 : decode cX6_add 18 = .ok (.aload_n 0, 1) := by decide +kernel
theorem dX6_add_19 : decode cX6_add 19 = .ok (.getfield 15, 3) := by decide +kernel
theorem dX6_add_22 : decode cX6_add 22 = .ok (.iload 6, 2) := by decide +kernel
theorem dX6_add_24 : decode cX6_add 24 = .ok (.iload_n 2, 1) := by decide +kernel
theorem dX6_add_25 : decode cX6_add 25 = .ok (.iastore, 1) := by decide +kernel
theorem dX6_add_26 : decode cX6_add 26 = .ok (.aload_n 0, 1) := by decide +kernel
theorem dX6_add_27 : decode cX6_add 27 = .ok (.getfield 15, 3) := by decide +kernel
theorem dX6_add_30 : decode cX6_add 30 = .ok (.iload 6, 2) := by decide +kernel
theorem dX6_add_32 : decode cX6_add 32 = .ok (.iconst 1, 1) := by decide +kernel
theorem dX6_add_33 : decode cX6_add 33 = .ok (.iadd, 1) := by decide +kernel
theorem dX6_add_34 : decode cX6_add 34 = .ok (.iload_n 3, 1) := by decide +kernel
theorem dX6_add_35 : decode cX6_add 35 = .ok (.iastore, 1) := by decide +kernel
theorem dX6_add_36 : decode cX6_add 36 = .ok (.aload_n 0, 1) := by decide +kernel
theorem dX6_add_37 : decode cX6_add 37 = .ok (.getfield 15, 3) := by decide +kernel
theorem dX6_add_40 : decode cX6_add 40 = .ok (.iload 6, 2) := by decide +kernel
theorem dX6_add_42 : decode cX6_add 42 = .ok (.iconst 2, 1) := by decide +kernel
theorem dX6_add_43 : decode cX6_add 43 = .ok (.iadd, 1) := by decide +kernel
theorem dX6_add_44 : decode cX6_add 44 = .ok (.iload 4, 2) := by decide +kernel
theorem dX6_add_46 : decode cX6_add 46 = .ok (.iastore, 1) := by decide +kernel
theorem dX6_add_47 : decode cX6_add 47 = .ok (.aload_n 0, 1) := by decide +kernel
theorem dX6_add_48 : decode cX6_add 48 = .ok (.getfield 15, 3) := by decide +kernel
theorem dX6_add_51 : decode cX6_add 51 = .ok (.iload 6, 2) := by decide +kernel
theorem dX6_add_53 : decode cX6_add 53 = .ok (.iconst 3, 1) := by decide +kernel
theorem dX6_add_54 : decode cX6_add 54 = .ok (.iadd, 1) := by decide +kernel
theorem dX6_add_55 : decode cX6_add 55 = .ok (.iload 5, 2) := by decide +kernel
theorem dX6_add_57 : decode cX6_add 57 = .ok (.iastore, 1) := by decide +kernel
theorem dX6_add_58 : decode cX6_add 58 = .ok (.aload_n 0, 1) := by decide +kernel
theorem dX6_add_59 : decode cX6_add 59 = .ok (.dup, 1) := by decide +kernel
theorem dX6_add_60 : decode cX6_add 60 = .ok (.getfield 18, 3) := by decide +kernel
theorem dX6_add_63 : decode cX6_add 63 = .ok (.dup_x1, 1) := by decide +kernel
theorem dX6_add_64 : decode cX6_add 64 = .ok (.iconst 1, 1) := by decide +kernel
theorem dX6_add_65 : decode cX6_add 65 = .ok (.iadd, 1) := by decide +kernel
theorem dX6_add_66 : decode cX6_add 66 = .ok (.putfield 18, 3) := by decide +kernel
theorem dX6_add_69 : decode cX6_add 69 = .ok (.ireturn, 1) := by decide +kernel
theorem dX6_starOn_0 : decode cX6_starOn 0 = .ok (.aload_n 0, 1) := by decide +kernel
theorem dX6_starOn_1 : decode cX6_starOn 1 = .ok (.iload_n 1, 1) := by decide +kernel
theorem dX6_starOn_2 : decode cX6_starOn 2 = .ok (.invokevirtual 22, 3) := by decide +kernel
theorem dX6_starOn_5 : decode cX6_starOn 5 = .ok (.istore 6, 2) := by decide +kernel
theorem dX6_starOn_7 : decode cX6_starOn 7 = .ok (.iload 6, 2) := by decide +kernel
theorem dX6_starOn_9 : decode cX6_starOn 9 = .ok (.ifCond .ge 5, 3) := by decide +kernel
theorem dX6_starOn_12 : decode cX6_starOn 12 = .ok (.iconst 0, 1) := by decide +kernel
theorem dX6_starOn_13 : decode cX6_starOn 13 = .ok (.ireturn, 1) := by decide +kernel
theorem dX6_starOn_14 : decode cX6_starOn 14 = .ok (.iconst 0, 1) := by decide +kernel
theorem dX6_starOn_15 : decode cX6_starOn 15 = .ok (.istore 7, 2) := by decide +kernel
theorem dX6_starOn_17 : decode cX6_starOn 17 = .ok (.iload 7, 2) := by decide +kernel
theorem dX6_starOn_19 : decode cX6_starOn 19 = .ok (.iconst 4, 1) := by decide +kernel
theorem dX6_starOn_20 : decode cX6_starOn 20 = .ok (.if_icmp .ge 35, 3) := by decide +kernel
theorem dX6_starOn_23 : decode cX6_starOn 23 = .ok (.lload_n 2, 1) := by decide +kernel
theorem dX6_starOn_24 : decode cX6_starOn 24 = .ok (.aload_n 0, 1) := by decide +kernel
theorem dX6_starOn_25 : decode cX6_starOn 25 = .ok (.getfield 15, 3) := by decide +kernel
theorem dX6_starOn_28 : decode cX6_starOn 28 = .ok (.iload 6, 2) := by decide +kernel
theorem dX6_starOn_30 : decode cX6_starOn 30 = .ok (.iconst 4, 1) := by decide +kernel
theorem dX6_starOn_31 : decode cX6_starOn 31 = .ok (.imul, 1) := by decide +kernel
theorem dX6_starOn_32 : decode cX6_starOn 32 = .ok (.iload 7, 2) := by decide +kernel
theorem dX6_starOn_34 : decode cX6_starOn 34 = .ok (.iadd, 1) := by decide +kernel
theorem dX6_starOn_35 : decode cX6_starOn 35 = .ok (.iaload, 1) := by decide +kernel
theorem dX6_starOn_36 : decode cX6_starOn 36 = .ok (.i2l, 1) := by decide +kernel
theorem dX6_starOn_37 : decode cX6_starOn 37 = .ok (.lload 4, 2) := by decide +kernel
theorem dX6_starOn_39 : decode cX6_starOn 39 = .ok (.lmul, 1) := by decide +kernel
theorem dX6_starOn_40 : decode cX6_starOn 40 = .ok (.lcmp, 1) := by decide +kernel
theorem dX6_starOn_41 : decode cX6_starOn 41 = .ok (.ifCond .ge 8, 3) := by decide +kernel
theorem dX6_starOn_44 : decode cX6_starOn 44 = .ok (.iconst 5, 1) := by decide +kernel
theorem dX6_starOn_45 : decode cX6_starOn 45 = .ok (.iload 7, 2) := by decide +kernel
theorem dX6_starOn_47 : decode cX6_starOn 47 = .ok (.isub, 1) := by decide +kernel
theorem dX6_starOn_48 : decode cX6_starOn 48 = .ok (.ireturn, 1) := by decide +kernel
theorem dX6_starOn_49 : decode cX6_starOn 49 = .ok (.iinc 7 1, 3) := by decide +kernel
theorem dX6_starOn_52 : decode cX6_starOn 52 = .ok (.goto (-35), 3) := by decide +kernel
theorem dX6_starOn_55 : decode cX6_starOn 55 = .ok (.iconst 1, 1) := by decide +kernel
theorem dX6_starOn_56 : decode cX6_starOn 56 = .ok (.ireturn, 1) := by decide +kernel
