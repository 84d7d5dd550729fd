theorem dX9_star_0 : decode cX9_star 0 = .ok (.aload_n 0, 1) := by decide +kernel
theorem dX9_star_1 : decode cX9_star 1 = .ok (.getfield 36, 3) := by decide +kernel
theorem dX9_star_4 : decode cX9_star 4 = .ok (.iload_n 1, 1) := by decide +kernel
theorem dX9_star_5 : decode cX9_star 5 = .ok (.invokevirtual 146, 3) := by decide +kernel
theorem dX9_star_8 : decode cX9_star 8 = .ok (.ifCond .ne 9, 3) := by decide +kernel
theorem dX9_star_11 : decode cX9_star 11 = .ok (.aload_n 0, 1) := by decide +kernel
theorem dX9_star_12 : decode cX9_star 12 = .ok (.iconst (-1), 1) := by decide +kernel
theorem dX9_star_13 : decode cX9_star 13 = .ok (.invokevirtual 108, 3) := by decide +kernel
theorem dX9_star_16 : decode cX9_star 16 = .ok (.ireturn, 1) := by decide +kernel
theorem dX9_star_17 : decode cX9_star 17 = .ok (.iload_n 2, 1) := by decide +kernel
theorem dX9_star_18 : decode cX9_star 18 = .ok (.ifCond .lt 7, 3) := by decide +kernel
theorem dX9_star_21 : decode cX9_star 21 = .ok (.iload_n 3, 1) := by decide +kernel
theorem dX9_star_22 : decode cX9_star 22 = .ok (.ifCond .ge 10, 3) := by decide +kernel
theorem dX9_star_25 : decode cX9_star 25 = .ok (.aload_n 0, 1) := by decide +kernel
theorem dX9_star_26 : decode cX9_star 26 = .ok (.bipush (-4), 2) := by decide +kernel
theorem dX9_star_28 : decode cX9_star 28 = .ok (.invokevirtual 108, 3) := by decide +kernel
theorem dX9_star_31 : decode cX9_star 31 = .ok (.ireturn, 1) := by decide +kernel
theorem dX9_star_32 : decode cX9_star 32 = .ok (.iload_n 2, 1) := by decide +kernel
theorem dX9_star_33 : decode cX9_star 33 = .ok (.sipush 1500, 3) := by decide +kernel
theorem dX9_star_36 : decode cX9_star 36 = .ok (.if_icmp .gt 10, 3) := by decide +kernel
theorem dX9_star_39 : decode cX9_star 39 = .ok (.iload_n 3, 1) := by decide +kernel
theorem dX9_star_40 : decode cX9_star 40 = .ok (.sipush 1500, 3) := by decide +kernel
theorem dX9_star_43 : decode cX9_star 43 = .ok (.if_icmp .le 10, 3) := by decide +kernel
theorem dX9_star_46 : decode cX9_star 46 = .ok (.aload_n 0, 1) := by decide +kernel
theorem dX9_star_47 : decode cX9_star 47 = .ok (.bipush (-6), 2) := by decide +kernel
theorem dX9_star_49 : decode cX9_star 49 = .ok (.invokevirtual 108, 3) := by decide +kernel
theorem dX9_star_52 : decode cX9_star 52 = .ok (.ireturn, 1) := by decide +kernel
theorem dX9_star_53 : decode cX9_star 53 = .ok (.aload_n 0, 1) := by decide +kernel
theorem dX9_star_54 : decode cX9_star 54 = .ok (.iload_n 1, 1) := by decide +kernel
theorem dX9_star_55 : decode cX9_star 55 = .ok (.iload_n 2, 1) := by decide +kernel
theorem dX9_star_56 : decode cX9_star 56 = .ok (.iload_n 3, 1) := by decide +kernel
theorem dX9_star_57 : decode cX9_star 57 = .ok (.invokevirtual 193, 3) := by decide +kernel
theorem dX9_star_60 : decode cX9_star 60 = .ok (.ireturn, 1) := by decide +kernel
theorem dX9_show_0 : decode cX9_show 0 = .ok (.aload_n 0, 1) := by decide +kernel
theorem dX9_show_1 : decode cX9_show 1 = .ok (.getfield 36, 3) := by decide +kernel
theorem dX9_show_4 : decode cX9_show 4 = .ok (.iload_n 1, 1) := by decide +kernel
theorem dX9_show_5 : decode cX9_show 5 = .ok (.invokevirtual 146, 3) := by decide +kernel
theorem dX9_show_8 : decode cX9_show 8 = .ok (.ifCond .ne 9, 3) := by decide +kernel
theorem dX9_show_11 : decode cX9_show 11 = .ok (.aload_n 0, 1) := by decide +kernel
theorem dX9_show_12 : decode cX9_show 12 = .ok (.iconst (-1), 1) := by decide +kernel
theorem dX9_show_13 : decode cX9_show 13 = .ok (.invokevirtual 108, 3) := by decide +kernel
theorem dX9_show_16 : decode cX9_show 16 = .ok (.ireturn, 1) := by decide +kernel
theorem dX9_show_17 : decode cX9_show 17 = .ok (.iload_n 2, 1) := by decide +kernel
theorem dX9_show_18 : decode cX9_show 18 = .ok (.ifCond .ge 10, 3) := by decide +kernel
theorem dX9_show_21 : decode cX9_show 21 = .ok (.aload_n 0, 1) := by decide +kernel
theorem dX9_show_22 : decode cX9_show 22 = .ok (.bipush (-4), 2) := by decide +kernel
theorem dX9_show_24 : decode cX9_show 24 = .ok (.invokevirtual 108, 3) := by decide +kernel
theorem dX9_show_27 : decode cX9_show 27 = .ok (.ireturn, 1) := by decide +kernel
theorem dX9_show_28 : decode cX9_show 28 = .ok (.iload_n 2, 1) := by decide +kernel
theorem dX9_show_29 : decode cX9_show 29 = .ok (.iconst 5, 1) := by decide +kernel
theorem dX9_show_30 : decode cX9_show 30 = .ok (.if_icmp .le 10, 3) := by decide +kernel
theorem dX9_show_33 : decode cX9_show 33 = .ok (.aload_n 0, 1) := by decide +kernel
theorem dX9_show_34 : decode cX9_show 34 = .ok (.bipush (-6), 2) := by decide +kernel
theorem dX9_show_36 : decode cX9_show 36 = .ok (.invokevirtual 108, 3) := by decide +kernel
theorem dX9_show_39 : decode cX9_show 39 = .ok (.ireturn, 1) := by decide +kernel
theorem dX9_show_40 : decode cX9_show 40 = .ok (.aload_n 0, 1) := by decide +kernel
theorem dX9_show_41 : decode cX9_show 41 = .ok (.getfield 36, 3) := by decide +kernel
theorem dX9_show_44 : decode cX9_show 44 = .ok (.iload_n 1, 1) := by decide +kernel
theorem dX9_show_45 : decode cX9_show 45 = .ok (.iload_n 2, 1) := by decide +kernel
theorem dX9_show_46 : decode cX9_show 46 = .ok (.invokevirtual 196, 3) := by decide +kernel
theorem dX9_show_49 : decode cX9_show 49 = .ok (.ireturn, 1) := by decide +kernel
theorem dX9_falses_0 : decode cX9_falses 0 = .ok (.iconst 0, 1) := by decide +kernel
theorem dX9_falses_1 : decode cX9_falses 1 = .ok (.istore_n 1, 1) := by decide +kernel
theorem dX9_falses_2 : decode cX9_falses 2 = .ok (.iconst 0, 1) := by decide +kernel
theorem dX9_falses_3 : decode cX9_falses 3 = .ok (.istore_n 2, 1) := by decide +kernel
theorem dX9_falses_4 : decode cX9_falses 4 = .ok (.iload_n 2, 1) := by decide +kernel
theorem dX9_falses_5 : decode cX9_falses 5 = .ok (.aload_n 0, 1) := by decide +kernel
theorem dX9_falses_6 : decode cX9_falses 6 = .ok (.getfield 36, 3) := by decide +kernel
theorem dX9_falses_9 : decode cX9_falses 9 = .ok (.invokevirtual 199, 3) := by decide +kernel
theorem dX9_falses_12 : decode cX9_falses 12 = .ok (.if_icmp .ge 36, 3) := by decide +kernel
theorem dX9_falses_15 : decode cX9_falses 15 = .ok (.aload_n 0, 1) := by decide +kernel
theorem dX9_falses_16 : decode cX9_falses 16 = .ok (.getfield 36, 3) := by decide +kernel
theorem dX9_falses_19 : decode cX9_falses 19 = .ok (.iload_n 2, 1) := by decide +kernel
theorem dX9_falses_20 : decode cX9_falses 20 = .ok (.invokevirtual 200, 3) := by decide +kernel
theorem dX9_falses_23 : decode cX9_falses 23 = .ok (.aload_n 0, 1) := by decide +kernel
theorem dX9_falses_24 : decode cX9_falses 24 = .ok (.iload_n 2, 1) := by decide +kernel
theorem dX9_falses_25 : decode cX9_falses 25 = .ok (.aload_n 0, 1) := by decide +kernel
theorem dX9_falses_26 : decode cX9_falses 26 = .ok (.getfield 95, 3) := by decide +kernel
theorem dX9_falses_29 : decode cX9_falses 29 = .ok (.aload_n 0, 1) := by decide +kernel
theorem dX9_falses_30 : decode cX9_falses 30 = .ok (.getfield 95, 3) := by decide +kernel
theorem dX9_falses_33 : decode cX9_falses 33 = .ok (.invokevirtual 193, 3) := by decide +kernel
theorem dX9_falses_36 : decode cX9_falses 36 = .ok (.if_icmp .le 6, 3) := by decide +kernel
theorem dX9_falses_39 : decode cX9_falses 39 = .ok (.iinc 1 1, 3) := by decide +kernel
theorem dX9_falses_42 : decode cX9_falses 42 = .ok (.iinc 2 1, 3) := by decide +kernel
theorem dX9_falses_45 : decode cX9_falses 45 = .ok (.goto (-41), 3) := by decide +kernel
theorem dX9_falses_48 : decode cX9_falses 48 = .ok (.iload_n 1, 1) := by decide +kernel
theorem dX9_falses_49 : decode cX9_falses 49 = .ok (.ireturn, 1) := by decide +kernel
theorem dX9_base_0 : decode cX9_base 0 = .ok (.iload_n 1, 1) := by decide +kernel
theorem dX9_base_1 : decode cX9_base 1 = .ok (.iconst 4, 1) := by decide +kernel
theorem dX9_base_2 : decode cX9_base 2 = .ok (.invokestatic 112, 3) := by decide +kernel
theorem dX9_base_5 : decode cX9_base 5 = .ok (.ifCond .ne 10, 3) := by decide +kernel
theorem dX9_base_8 : decode cX9_base 8 = .ok (.aload_n 0, 1) := by decide +kernel
theorem dX9_base_9 : decode cX9_base 9 = .ok (.bipush (-2), 2) := by decide +kernel
theorem dX9_base_11 : decode cX9_base 11 = .ok (.invokevirtual 108, 3) := by decide +kernel
theorem dX9_base_14 : decode cX9_base 14 = .ok (.ireturn, 1) := by decide +kernel
theorem dX9_base_15 : decode cX9_base 15 = .ok (.iload_n 2, 1) := by decide +kernel
theorem dX9_base_16 : decode cX9_base 16 = .ok (.iconst 1, 1) := by decide +kernel
theorem dX9_base_17 : decode cX9_base 17 = .ok (.if_icmp .ge 10, 3) := by decide +kernel
theorem dX9_base_20 : decode cX9_base 20 = .ok (.aload_n 0, 1) := by decide +kernel
theorem dX9_base_21 : decode cX9_base 21 = .ok (.bipush (-4), 2) := by decide +kernel
theorem dX9_base_23 : decode cX9_base 23 = .ok (.invokevirtual 108, 3) := by decide +kernel
theorem dX9_base_26 : decode cX9_base 26 = .ok (.ireturn, 1) := by decide +kernel
theorem dX9_base_27 : decode cX9_base 27 = .ok (.iload_n 2, 1) := by decide +kernel
theorem dX9_base_28 : decode cX9_base 28 = .ok (.bipush 50, 2) := by decide +kernel
theorem dX9_base_30 : decode cX9_base 30 = .ok (.if_icmp .le 10, 3) := by decide +kernel
theorem dX9_base_33 : decode cX9_base 33 = .ok (.aload_n 0, 1) := by decide +kernel
theorem dX9_base_34 : decode cX9_base 34 = .ok (.bipush (-6), 2) := by decide +kernel
theorem dX9_base_36 : decode cX9_base 36 = .ok (.invokevirtual 108, 3) := by decide +kernel
theorem dX9_base_39 : decode cX9_base 39 = .ok (.ireturn, 1) := by decide +kernel
theorem dX9_base_40 : decode cX9_base 40 = .ok (.aload_n 0, 1) := by decide +kernel
theorem dX9_base_41 : decode cX9_base 41 = .ok (.getfield 17, 3) := by decide +kernel
theorem dX9_base_44 : decode cX9_base 44 = .ok (.iload_n 1, 1) := by decide +kernel
theorem dX9_base_45 : decode cX9_base 45 = .ok (.iaload, 1) := by decide +kernel
theorem dX9_base_46 : decode cX9_base 46 = .ok (.istore_n 3, 1) := by decide +kernel
theorem dX9_base_47 : decode cX9_base 47 = .ok (.aload_n 0, 1) := by decide +kernel
theorem dX9_base_48 : decode cX9_base 48 = .ok (.getfield 17, 3) := by decide +kernel
theorem dX9_base_51 : decode cX9_base 51 = .ok (.iload_n 1, 1) := by decide +kernel
theorem dX9_base_52 : decode cX9_base 52 = .ok (.iload_n 2, 1) := by decide +kernel
theorem dX9_base_53 : decode cX9_base 53 = .ok (.iastore, 1) := by decide +kernel
theorem dX9_base_54 : decode cX9_base 54 = .ok (.iload_n 3, 1) := by decide +kernel
theorem dX9_base_55 : decode cX9_base 55 = .ok (.ireturn, 1) := by decide +kernel
theorem dX9_risk_0 : decode cX9_risk 0 = .ok (.aload_n 0, 1) := by decide +kernel
theorem dX9_risk_1 : decode cX9_risk 1 = .ok (.getfield 36, 3) := by decide +kernel
theorem dX9_risk_4 : decode cX9_risk 4 = .ok (.iload_n 1, 1) := by decide +kernel
theorem dX9_risk_5 : decode cX9_risk 5 = .ok (.invokevirtual 146, 3) := by decide +kernel
theorem dX9_risk_8 : decode cX9_risk 8 = .ok (.ifCond .ne 9, 3) := by decide +kernel
theorem dX9_risk_11 : decode cX9_risk 11 = .ok (.aload_n 0, 1) := by decide +kernel
theorem dX9_risk_12 : decode cX9_risk 12 = .ok (.iconst (-1), 1) := by decide +kernel
theorem dX9_risk_13 : decode cX9_risk 13 = .ok (.invokevirtual 108, 3) := by decide +kernel
theorem dX9_risk_16 : decode cX9_risk 16 = .ok (.ireturn, 1) := by decide +kernel
theorem dX9_risk_17 : decode cX9_risk 17 = .ok (.iload_n 2, 1) := by decide +kernel
theorem dX9_risk_18 : decode cX9_risk 18 = .ok (.ifCond .ne 9, 3) := by decide +kernel
theorem dX9_risk_21 : decode cX9_risk 21 = .ok (.aload_n 0, 1) := by decide +kernel
theorem dX9_risk_22 : decode cX9_risk 22 = .ok (.iload_n 1, 1) := by decide +kernel
theorem dX9_risk_23 : decode cX9_risk 23 = .ok (.invokevirtual 203, 3) := by decide +kernel
theorem dX9_risk_26 : decode cX9_risk 26 = .ok (.ireturn, 1) := by decide +kernel
theorem dX9_risk_27 : decode cX9_risk 27 = .ok (.iload_n 2, 1) := by decide +kernel
theorem dX9_risk_28 : decode cX9_risk 28 = .ok (.iconst 1, 1) := by decide +kernel
theorem dX9_risk_29 : decode cX9_risk 29 = .ok (.if_icmp .ne 14, 3) := by decide +kernel
theorem dX9_risk_32 : decode cX9_risk 32 = .ok (.aload_n 0, 1) := by decide +kernel
theorem dX9_risk_33 : decode cX9_risk 33 = .ok (.iload_n 1, 1) := by decide +kernel
theorem dX9_risk_34 : decode cX9_risk 34 = .ok (.aload_n 0, 1) := by decide +kernel
theorem dX9_risk_35 : decode cX9_risk 35 = .ok (.iload_n 1, 1) := by decide +kernel
theorem dX9_risk_36 : decode cX9_risk 36 = .ok (.invokevirtual 203, 3) := by decide +kernel
theorem dX9_risk_39 : decode cX9_risk 39 = .ok (.invokevirtual 206, 3) := by decide +kernel
theorem dX9_risk_42 : decode cX9_risk 42 = .ok (.ireturn, 1) := by decide +kernel
theorem dX9_risk_43 : decode cX9_risk 43 = .ok (.aload_n 0, 1) := by decide +kernel
theorem dX9_risk_44 : decode cX9_risk 44 = .ok (.bipush (-2), 2) := by decide +kernel
theorem dX9_risk_46 : decode cX9_risk 46 = .ok (.invokevirtual 108, 3) := by decide +kernel
theorem dX9_risk_49 : decode cX9_risk 49 = .ok (.ireturn, 1) := by decide +kernel
theorem dX9_delay_0 : decode cX9_delay 0 = .ok (.aload_n 0, 1) := by decide +kernel
theorem dX9_delay_1 : decode cX9_delay 1 = .ok (.getfield 36, 3) := by decide +kernel
theorem dX9_delay_4 : decode cX9_delay 4 = .ok (.iload_n 1, 1) := by decide +kernel
theorem dX9_delay_5 : decode cX9_delay 5 = .ok (.invokevirtual 146, 3) := by decide +kernel
theorem dX9_delay_8 : decode cX9_delay 8 = .ok (.ifCond .ne 9, 3) := by decide +kernel
theorem dX9_delay_11 : decode cX9_delay 11 = .ok (.aload_n 0, 1) := by decide +kernel
theorem dX9_delay_12 : decode cX9_delay 12 = .ok (.iconst (-1), 1) := by decide +kernel
theorem dX9_delay_13 : decode cX9_delay 13 = .ok (.invokevirtual 108, 3) := by decide +kernel
theorem dX9_delay_16 : decode cX9_delay 16 = .ok (.ireturn, 1) := by decide +kernel
theorem dX9_delay_17 : decode cX9_delay 17 = .ok (.iload_n 2, 1) := by decide +kernel
theorem dX9_delay_18 : decode cX9_delay 18 = .ok (.ifCond .ge 10, 3) := by decide +kernel
theorem dX9_delay_21 : decode cX9_delay 21 = .ok (.aload_n 0, 1) := by decide +kernel
theorem dX9_delay_22 : decode cX9_delay 22 = .ok (.bipush (-4), 2) := by decide +kernel
theorem dX9_delay_24 : decode cX9_delay 24 = .ok (.invokevirtual 108, 3) := by decide +kernel
theorem dX9_delay_27 : decode cX9_delay 27 = .ok (.ireturn, 1) := by decide +kernel
theorem dX9_delay_28 : decode cX9_delay 28 = .ok (.iload_n 2, 1) := by decide +kernel
theorem dX9_delay_29 : decode cX9_delay 29 = .ok (.sipush 1500, 3) := by decide +kernel
theorem dX9_delay_32 : decode cX9_delay 32 = .ok (.if_icmp .le 10, 3) := by decide +kernel
theorem dX9_delay_35 : decode cX9_delay 35 = .ok (.aload_n 0, 1) := by decide +kernel
theorem dX9_delay_36 : decode cX9_delay 36 = .ok (.bipush (-6), 2) := by decide +kernel
theorem dX9_delay_38 : decode cX9_delay 38 = .ok (.invokevirtual 108, 3) := by decide +kernel
theorem dX9_delay_41 : decode cX9_delay 41 = .ok (.ireturn, 1) := by decide +kernel
theorem dX9_delay_42 : decode cX9_delay 42 = .ok (.aload_n 0, 1) := by decide +kernel
theorem dX9_delay_43 : decode cX9_delay 43 = .ok (.iload_n 1, 1) := by decide +kernel
theorem dX9_delay_44 : decode cX9_delay 44 = .ok (.invokevirtual 203, 3) := by decide +kernel
theorem dX9_delay_47 : decode cX9_delay 47 = .ok (.istore_n 3, 1) := by decide +kernel
theorem dX9_delay_48 : decode cX9_delay 48 = .ok (.iload_n 3, 1) := by decide +kernel
theorem dX9_delay_49 : decode cX9_delay 49 = .ok (.aload_n 0, 1) := by decide +kernel
theorem dX9_delay_50 : decode cX9_delay 50 = .ok (.iload_n 1, 1) := by decide +kernel
theorem dX9_delay_51 : decode cX9_delay 51 = .ok (.iload_n 3, 1) := by decide +kernel
theorem dX9_delay_52 : decode cX9_delay 52 = .ok (.invokevirtual 206, 3) := by decide +kernel
theorem dX9_delay_55 : decode cX9_delay 55 = .ok (.iload_n 2, 1) := by decide +kernel
theorem dX9_delay_56 : decode cX9_delay 56 = .ok (.invokestatic 209, 3) := by decide +kernel
theorem dX9_delay_59 : decode cX9_delay 59 = .ok (.ireturn, 1) := by decide +kernel
theorem dX9_capacity_0 : decode cX9_capacity 0 = .ok (.iload_n 1, 1) := by decide +kernel
theorem dX9_capacity_1 : decode cX9_capacity 1 = .ok (.iconst 1, 1) := by decide +kernel
theorem dX9_capacity_2 : decode cX9_capacity 2 = .ok (.if_icmp .ge 10, 3) := by decide +kernel
theorem dX9_capacity_5 : decode cX9_capacity 5 = .ok (.aload_n 0, 1) := by decide +kernel
theorem dX9_capacity_6 : decode cX9_capacity 6 = .ok (.bipush (-4), 2) := by decide +kernel
theorem dX9_capacity_8 : decode cX9_capacity 8 = .ok (.invokevirtual 108, 3) := by decide +kernel
theorem dX9_capacity_11 : decode cX9_capacity 11 = .ok (.ireturn, 1) := by decide +kernel
theorem dX9_capacity_12 : decode cX9_capacity 12 = .ok (.iload_n 1, 1) := by decide +kernel
theorem dX9_capacity_13 : decode cX9_capacity 13 = .ok (.bipush 9, 2) := by decide +kernel
theorem dX9_capacity_15 : decode cX9_capacity 15 = .ok (.if_icmp .le 10, 3) := by decide +kernel
theorem dX9_capacity_18 : decode cX9_capacity 18 = .ok (.aload_n 0, 1) := by decide +kernel
theorem dX9_capacity_19 : decode cX9_capacity 19 = .ok (.bipush (-6), 2) := by decide +kernel
theorem dX9_capacity_21 : decode cX9_capacity 21 = .ok (.invokevirtual 108, 3) := by decide +kernel
theorem dX9_capacity_24 : decode cX9_capacity 24 = .ok (.ireturn, 1) := by decide +kernel
theorem dX9_capacity_25 : decode cX9_capacity 25 = .ok (.aload_n 0, 1) := by decide +kernel
theorem dX9_capacity_26 : decode cX9_capacity 26 = .ok (.getfield 99, 3) := by decide +kernel
theorem dX9_capacity_29 : decode cX9_capacity 29 = .ok (.istore_n 2, 1) := by decide +kernel
theorem dX9_capacity_30 : decode cX9_capacity 30 = .ok (.aload_n 0, 1) := by decide +kernel
theorem dX9_capacity_31 : decode cX9_capacity 31 = .ok (.iload_n 1, 1) := by decide +kernel
theorem dX9_capacity_32 : decode cX9_capacity 32 = .ok (.putfield 99, 3) := by decide +kernel
theorem dX9_capacity_35 : decode cX9_capacity 35 = .ok (.iload_n 2, 1) := by decide +kernel
theorem dX9_capacity_36 : decode cX9_capacity 36 = .ok (.ireturn, 1) := by decide +kernel
theorem dX9_rounds_0 : decode cX9_rounds 0 = .ok (.iload_n 1, 1) := by decide +kernel
theorem dX9_rounds_1 : decode cX9_rounds 1 = .ok (.iconst 1, 1) := by decide +kernel
theorem dX9_rounds_2 : decode cX9_rounds 2 = .ok (.if_icmp .ge 10, 3) := by decide +kernel
theorem dX9_rounds_5 : decode cX9_rounds 5 = .ok (.aload_n 0, 1) := by decide +kernel
theorem dX9_rounds_6 : decode cX9_rounds 6 = .ok (.bipush (-4), 2) := by decide +kernel
theorem dX9_rounds_8 : decode cX9_rounds 8 = .ok (.invokevirtual 108, 3) := by decide +kernel
theorem dX9_rounds_11 : decode cX9_rounds 11 = .ok (.ireturn, 1) := by decide +kernel
theorem dX9_rounds_12 : decode cX9_rounds 12 = .ok (.iload_n 1, 1) := by decide +kernel
theorem dX9_rounds_13 : decode cX9_rounds 13 = .ok (.iconst 3, 1) := by decide +kernel
theorem dX9_rounds_14 : decode cX9_rounds 14 = .ok (.if_icmp .gt 16, 3) := by decide +kernel
theorem dX9_rounds_17 : decode cX9_rounds 17 = .ok (.aload_n 0, 1) := by decide +kernel
theorem dX9_rounds_18 : decode cX9_rounds 18 = .ok (.getfield 95, 3) := by decide +kernel
theorem dX9_rounds_21 : decode cX9_rounds 21 = .ok (.bipush 7, 2) := by decide +kernel
theorem dX9_rounds_23 : decode cX9_rounds 23 = .ok (.iadd, 1) := by decide +kernel
theorem dX9_rounds_24 : decode cX9_rounds 24 = .ok (.sipush 1500, 3) := by decide +kernel
theorem dX9_rounds_27 : decode cX9_rounds 27 = .ok (.if_icmp .le 10, 3) := by decide +kernel
theorem dX9_rounds_30 : decode cX9_rounds 30 = .ok (.aload_n 0, 1) := by decide +kernel
theorem dX9_rounds_31 : decode cX9_rounds 31 = .ok (.bipush (-6), 2) := by decide +kernel
theorem dX9_rounds_33 : decode cX9_rounds 33 = .ok (.invokevirtual 108, 3) := by decide +kernel
theorem dX9_rounds_36 : decode cX9_rounds 36 = .ok (.ireturn, 1) := by decide +kernel
theorem dX9_rounds_37 : decode cX9_rounds 37 = .ok (.aload_n 0, 1) := by decide +kernel
theorem dX9_rounds_38 : decode cX9_rounds 38 = .ok (.iload_n 1, 1) := by decide +kernel
theorem dX9_rounds_39 : decode cX9_rounds 39 = .ok (.invokevirtual 212, 3) := by decide +kernel
theorem dX9_rounds_42 : decode cX9_rounds 42 = .ok (.ireturn, 1) := by decide +kernel
theorem dX9_roundOf_0 : decode cX9_roundOf 0 = .ok (.aload_n 0, 1) := by decide +kernel
theorem dX9_roundOf_1 : decode cX9_roundOf 1 = .ok (.getfield 36, 3) := by decide +kernel
theorem dX9_roundOf_4 : decode cX9_roundOf 4 = .ok (.iload_n 2, 1) := by decide +kernel
theorem dX9_roundOf_5 : decode cX9_roundOf 5 = .ok (.invokevirtual 146, 3) := by decide +kernel
theorem dX9_roundOf_8 : decode cX9_roundOf 8 = .ok (.ifCond .ne 9, 3) := by decide +kernel
theorem dX9_roundOf_11 : decode cX9_roundOf 11 = .ok (.aload_n 0, 1) := by decide +kernel
theorem dX9_roundOf_12 : decode cX9_roundOf 12 = .ok (.iconst (-1), 1) := by decide +kernel
theorem dX9_roundOf_13 : decode cX9_roundOf 13 = .ok (.invokevirtual 108, 3) := by decide +kernel
theorem dX9_roundOf_16 : decode cX9_roundOf 16 = .ok (.ireturn, 1) := by decide +kernel
theorem dX9_roundOf_17 : decode cX9_roundOf 17 = .ok (.iload_n 3, 1) := by decide +kernel
theorem dX9_roundOf_18 : decode cX9_roundOf 18 = .ok (.ifCond .lt 8, 3) := by decide +kernel
theorem dX9_roundOf_21 : decode cX9_roundOf 21 = .ok (.iload_n 3, 1) := by decide +kernel
theorem dX9_roundOf_22 : decode cX9_roundOf 22 = .ok (.iconst 1, 1) := by decide +kernel
theorem dX9_roundOf_23 : decode cX9_roundOf 23 = .ok (.if_icmp .le 10, 3) := by decide +kernel
theorem dX9_roundOf_26 : decode cX9_roundOf 26 = .ok (.aload_n 0, 1) := by decide +kernel
theorem dX9_roundOf_27 : decode cX9_roundOf 27 = .ok (.bipush (-2), 2) := by decide +kernel
theorem dX9_roundOf_29 : decode cX9_roundOf 29 = .ok (.invokevirtual 108, 3) := by decide +kernel
theorem dX9_roundOf_32 : decode cX9_roundOf 32 = .ok (.ireturn, 1) := by decide +kernel
theorem dX9_roundOf_33 : decode cX9_roundOf 33 = .ok (.iload_n 1, 1) := by decide +kernel
theorem dX9_roundOf_34 : decode cX9_roundOf 34 = .ok (.iconst 1, 1) := by decide +kernel
theorem dX9_roundOf_35 : decode cX9_roundOf 35 = .ok (.if_icmp .ge 10, 3) := by decide +kernel
theorem dX9_roundOf_38 : decode cX9_roundOf 38 = .ok (.aload_n 0, 1) := by decide +kernel
theorem dX9_roundOf_39 : decode cX9_roundOf 39 = .ok (.bipush (-4), 2) := by decide +kernel
theorem dX9_roundOf_41 : decode cX9_roundOf 41 = .ok (.invokevirtual 108, 3) := by decide +kernel
theorem dX9_roundOf_44 : decode cX9_roundOf 44 = .ok (.ireturn, 1) := by decide +kernel
theorem dX9_roundOf_45 : decode cX9_roundOf 45 = .ok (.iload_n 1, 1) := by decide +kernel
theorem dX9_roundOf_46 : decode cX9_roundOf 46 = .ok (.iconst 3, 1) := by decide +kernel
theorem dX9_roundOf_47 : decode cX9_roundOf 47 = .ok (.if_icmp .gt 16, 3) := by decide +kernel
theorem dX9_roundOf_50 : decode cX9_roundOf 50 = .ok (.aload_n 0, 1) := by decide +kernel
theorem dX9_roundOf_51 : decode cX9_roundOf 51 = .ok (.getfield 95, 3) := by decide +kernel
theorem dX9_roundOf_54 : decode cX9_roundOf 54 = .ok (.bipush 7, 2) := by decide +kernel
theorem dX9_roundOf_56 : decode cX9_roundOf 56 = .ok (.iadd, 1) := by decide +kernel
theorem dX9_roundOf_57 : decode cX9_roundOf 57 = .ok (.sipush 1500, 3) := by decide +kernel
theorem dX9_roundOf_60 : decode cX9_roundOf 60 = .ok (.if_icmp .le 10, 3) := by decide +kernel
theorem dX9_roundOf_63 : decode cX9_roundOf 63 = .ok (.aload_n 0, 1) := by decide +kernel
theorem dX9_roundOf_64 : decode cX9_roundOf 64 = .ok (.bipush (-6), 2) := by decide +kernel
theorem dX9_roundOf_66 : decode cX9_roundOf 66 = .ok (.invokevirtual 108, 3) := by decide +kernel
theorem dX9_roundOf_69 : decode cX9_roundOf 69 = .ok (.ireturn, 1) := by decide +kernel
theorem dX9_roundOf_70 : decode cX9_roundOf 70 = .ok (.aload_n 0, 1) := by decide +kernel
theorem dX9_roundOf_71 : decode cX9_roundOf 71 = .ok (.iload_n 1, 1) := by decide +kernel
theorem dX9_roundOf_72 : decode cX9_roundOf 72 = .ok (.invokevirtual 212, 3) := by decide +kernel
theorem dX9_roundOf_75 : decode cX9_roundOf 75 = .ok (.pop, 1) := by decide +kernel
theorem dX9_roundOf_76 : decode cX9_roundOf 76 = .ok (.iload_n 3, 1) := by decide +kernel
theorem dX9_roundOf_77 : decode cX9_roundOf 77 = .ok (.iconst 1, 1) := by decide +kernel
theorem dX9_roundOf_78 : decode cX9_roundOf 78 = .ok (.if_icmp .ne 12, 3) := by decide +kernel
theorem dX9_roundOf_81 : decode cX9_roundOf 81 = .ok (.aload_n 0, 1) := by decide +kernel
theorem dX9_roundOf_82 : decode cX9_roundOf 82 = .ok (.getfield 59, 3) := by decide +kernel
theorem dX9_roundOf_85 : decode cX9_roundOf 85 = .ok (.iload_n 2, 1) := by decide +kernel
theorem dX9_roundOf_86 : decode cX9_roundOf 86 = .ok (.invokevirtual 215, 3) := by decide +kernel
theorem dX9_roundOf_89 : decode cX9_roundOf 89 = .ok (.ireturn, 1) := by decide +kernel
theorem dX9_roundOf_90 : decode cX9_roundOf 90 = .ok (.aload_n 0, 1) := by decide +kernel
theorem dX9_roundOf_91 : decode cX9_roundOf 91 = .ok (.getfield 59, 3) := by decide +kernel
theorem dX9_roundOf_94 : decode cX9_roundOf 94 = .ok (.iload_n 2, 1) := by decide +kernel
theorem dX9_roundOf_95 : decode cX9_roundOf 95 = .ok (.invokevirtual 218, 3) := by decide +kernel
theorem dX9_roundOf_98 : decode cX9_roundOf 98 = .ok (.istore 4, 2) := by decide +kernel
theorem dX9_roundOf_100 : decode cX9_roundOf 100 = .ok (.iload 4, 2) := by decide +kernel
theorem dX9_roundOf_102 : decode cX9_roundOf 102 = .ok (.iconst 5, 1) := by decide +kernel
theorem dX9_roundOf_103 : decode cX9_roundOf 103 = .ok (.if_icmp .ge 13, 3) := by decide +kernel
theorem dX9_roundOf_106 : decode cX9_roundOf 106 = .ok (.aload_n 0, 1) := by decide +kernel
theorem dX9_roundOf_107 : decode cX9_roundOf 107 = .ok (.getfield 95, 3) := by decide +kernel
theorem dX9_roundOf_110 : decode cX9_roundOf 110 = .ok (.iload 4, 2) := by decide +kernel
theorem dX9_roundOf_112 : decode cX9_roundOf 112 = .ok (.iadd, 1) := by decide +kernel
theorem dX9_roundOf_113 : decode cX9_roundOf 113 = .ok (.goto 5, 3) := by decide +kernel
theorem dX9_roundOf_116 : decode cX9_roundOf 116 = .ok (.bipush (-9), 2) := by decide +kernel
theorem dX9_roundOf_118 : decode cX9_roundOf 118 = .ok (.ireturn, 1) := by decide +kernel
theorem dX9_doubles_0 : decode cX9_doubles 0 = .ok (.aload_n 0, 1) := by decide +kernel
theorem dX9_doubles_1 : decode cX9_doubles 1 = .ok (.getfield 68, 3) := by decide +kernel
theorem dX9_doubles_4 : decode cX9_doubles 4 = .ok (.invokevirtual 221, 3) := by decide +kernel
theorem dX9_doubles_7 : decode cX9_doubles 7 = .ok (.ireturn, 1) := by decide +kernel
theorem dX9_habit_0 : decode cX9_habit 0 = .ok (.iload_n 1, 1) := by decide +kernel
theorem dX9_habit_1 : decode cX9_habit 1 = .ok (.iconst 5, 1) := by decide +kernel
theorem dX9_habit_2 : decode cX9_habit 2 = .ok (.invokestatic 112, 3) := by decide +kernel
theorem dX9_habit_5 : decode cX9_habit 5 = .ok (.ifCond .ne 9, 3) := by decide +kernel
theorem dX9_habit_8 : decode cX9_habit 8 = .ok (.aload_n 0, 1) := by decide +kernel
theorem dX9_habit_9 : decode cX9_habit 9 = .ok (.iconst (-1), 1) := by decide +kernel
theorem dX9_habit_10 : decode cX9_habit 10 = .ok (.invokevirtual 224, 3) := by decide +kernel
theorem dX9_habit_13 : decode cX9_habit 13 = .ok (.lreturn, 1) := by decide +kernel
theorem dX9_habit_14 : decode cX9_habit 14 = .ok (.iload_n 2, 1) := by decide +kernel
theorem dX9_habit_15 : decode cX9_habit 15 = .ok (.ifCond .lt 8, 3) := by decide +kernel
theorem dX9_habit_18 : decode cX9_habit 18 = .ok (.iload_n 2, 1) := by decide +kernel
theorem dX9_habit_19 : decode cX9_habit 19 = .ok (.iconst 1, 1) := by decide +kernel
theorem dX9_habit_20 : decode cX9_habit 20 = .ok (.if_icmp .le 10, 3) := by decide +kernel
theorem dX9_habit_23 : decode cX9_habit 23 = .ok (.aload_n 0, 1) := by decide +kernel
theorem dX9_habit_24 : decode cX9_habit 24 = .ok (.bipush (-2), 2) := by decide +kernel
theorem dX9_habit_26 : decode cX9_habit 26 = .ok (.invokevirtual 224, 3) := by decide +kernel
theorem dX9_habit_29 : decode cX9_habit 29 = .ok (.lreturn, 1) := by decide +kernel
theorem dX9_habit_30 : decode cX9_habit 30 = .ok (.aload_n 0, 1) := by decide +kernel
theorem dX9_habit_31 : decode cX9_habit 31 = .ok (.getfield 68, 3) := by decide +kernel
theorem dX9_habit_34 : decode cX9_habit 34 = .ok (.invokevirtual 228, 3) := by decide +kernel
theorem dX9_habit_37 : decode cX9_habit 37 = .ok (.aload_n 0, 1) := by decide +kernel
theorem dX9_habit_38 : decode cX9_habit 38 = .ok (.getfield 68, 3) := by decide +kernel
theorem dX9_habit_41 : decode cX9_habit 41 = .ok (.iload_n 1, 1) := by decide +kernel
theorem dX9_habit_42 : decode cX9_habit 42 = .ok (.invokevirtual 231, 3) := by decide +kernel
theorem dX9_habit_45 : decode cX9_habit 45 = .ok (.ifCond .ne 10, 3) := by decide +kernel
theorem dX9_habit_48 : decode cX9_habit 48 = .ok (.aload_n 0, 1) := by decide +kernel
theorem dX9_habit_49 : decode cX9_habit 49 = .ok (.bipush (-3), 2) := by decide +kernel
theorem dX9_habit_51 : decode cX9_habit 51 = .ok (.invokevirtual 224, 3) := by decide +kernel
theorem dX9_habit_54 : decode cX9_habit 54 = .ok (.lreturn, 1) := by decide +kernel
theorem dX9_habit_55 : decode cX9_habit 55 = .ok (.aload_n 0, 1) := by decide +kernel
theorem dX9_habit_56 : decode cX9_habit 56 = .ok (.getfield 68, 3) := by decide +kernel
theorem dX9_habit_59 : decode cX9_habit 59 = .ok (.iload_n 1, 1) := by decide +kernel
theorem dX9_habit_60 : decode cX9_habit 60 = .ok (.invokevirtual 234, 3) := by decide +kernel
theorem dX9_habit_63 : decode cX9_habit 63 = .ok (.iload_n 2, 1) := by decide +kernel
theorem dX9_habit_64 : decode cX9_habit 64 = .ok (.invokevirtual 238, 3) := by decide +kernel
theorem dX9_habit_67 : decode cX9_habit 67 = .ok (.lreturn, 1) := by decide +kernel
theorem dX9_evened_0 : decode cX9_evened 0 = .ok (.aload_n 0, 1) := by decide +kernel
theorem dX9_evened_1 : decode cX9_evened 1 = .ok (.getfield 45, 3) := by decide +kernel
theorem dX9_evened_4 : decode cX9_evened 4 = .ok (.iload_n 1, 1) := by decide +kernel
theorem dX9_evened_5 : decode cX9_evened 5 = .ok (.invokevirtual 168, 3) := by decide +kernel
theorem dX9_evened_8 : decode cX9_evened 8 = .ok (.ifCond .ne 9, 3) := by decide +kernel
theorem dX9_evened_11 : decode cX9_evened 11 = .ok (.aload_n 0, 1) := by decide +kernel
theorem dX9_evened_12 : decode cX9_evened 12 = .ok (.iconst (-1), 1) := by decide +kernel
theorem dX9_evened_13 : decode cX9_evened 13 = .ok (.invokevirtual 224, 3) := by decide +kernel
theorem dX9_evened_16 : decode cX9_evened 16 = .ok (.lreturn, 1) := by decide +kernel
theorem dX9_evened_17 : decode cX9_evened 17 = .ok (.iload_n 2, 1) := by decide +kernel
theorem dX9_evened_18 : decode cX9_evened 18 = .ok (.ifCond .lt 8, 3) := by decide +kernel
theorem dX9_evened_21 : decode cX9_evened 21 = .ok (.iload_n 2, 1) := by decide +kernel
theorem dX9_evened_22 : decode cX9_evened 22 = .ok (.iconst 1, 1) := by decide +kernel
theorem dX9_evened_23 : decode cX9_evened 23 = .ok (.if_icmp .le 10, 3) := by decide +kernel
theorem dX9_evened_26 : decode cX9_evened 26 = .ok (.aload_n 0, 1) := by decide +kernel
theorem dX9_evened_27 : decode cX9_evened 27 = .ok (.bipush (-2), 2) := by decide +kernel
theorem dX9_evened_29 : decode cX9_evened 29 = .ok (.invokevirtual 224, 3) := by decide +kernel
theorem dX9_evened_32 : decode cX9_evened 32 = .ok (.lreturn, 1) := by decide +kernel
theorem dX9_evened_33 : decode cX9_evened 33 = .ok (.aload_n 0, 1) := by decide +kernel
theorem dX9_evened_34 : decode cX9_evened 34 = .ok (.getfield 68, 3) := by decide +kernel
theorem dX9_evened_37 : decode cX9_evened 37 = .ok (.invokevirtual 228, 3) := by decide +kernel
theorem dX9_evened_40 : decode cX9_evened 40 = .ok (.aload_n 0, 1) := by decide +kernel
theorem dX9_evened_41 : decode cX9_evened 41 = .ok (.iload_n 1, 1) := by decide +kernel
theorem dX9_evened_42 : decode cX9_evened 42 = .ok (.invokevirtual 241, 3) := by decide +kernel
theorem dX9_evened_45 : decode cX9_evened 45 = .ok (.aload_n 0, 1) := by decide +kernel
theorem dX9_evened_46 : decode cX9_evened 46 = .ok (.getfield 91, 3) := by decide +kernel
theorem dX9_evened_49 : decode cX9_evened 49 = .ok (.iload_n 2, 1) := by decide +kernel
theorem dX9_evened_50 : decode cX9_evened 50 = .ok (.invokevirtual 238, 3) := by decide +kernel
theorem dX9_evened_53 : decode cX9_evened 53 = .ok (.lreturn, 1) := by decide +kernel
theorem dX9_others_0 : decode cX9_others 0 = .ok (.aload_n 0, 1) := by decide +kernel
theorem dX9_others_1 : decode cX9_others 1 = .ok (.getfield 68, 3) := by decide +kernel
theorem dX9_others_4 : decode cX9_others 4 = .ok (.invokevirtual 228, 3) := by decide +kernel
theorem dX9_others_7 : decode cX9_others 7 = .ok (.iconst 0, 1) := by decide +kernel
theorem dX9_others_8 : decode cX9_others 8 = .ok (.istore_n 1, 1) := by decide +kernel
theorem dX9_others_9 : decode cX9_others 9 = .ok (.iconst 0, 1) := by decide +kernel
theorem dX9_others_10 : decode cX9_others 10 = .ok (.istore_n 2, 1) := by decide +kernel
theorem dX9_others_11 : decode cX9_others 11 = .ok (.iload_n 2, 1) := by decide +kernel
theorem dX9_others_12 : decode cX9_others 12 = .ok (.aload_n 0, 1) := by decide +kernel
theorem dX9_others_13 : decode cX9_others 13 = .ok (.getfield 36, 3) := by decide +kernel
theorem dX9_others_16 : decode cX9_others 16 = .ok (.invokevirtual 199, 3) := by decide +kernel
theorem dX9_others_19 : decode cX9_others 19 = .ok (.if_icmp .ge 41, 3) := by decide +kernel
theorem dX9_others_22 : decode cX9_others 22 = .ok (.aload_n 0, 1) := by decide +kernel
theorem dX9_others_23 : decode cX9_others 23 = .ok (.getfield 45, 3) := by decide +kernel
theorem dX9_others_26 : decode cX9_others 26 = .ok (.iload_n 2, 1) := by decide +kernel
theorem dX9_others_27 : decode cX9_others 27 = .ok (.aload_n 0, 1) := by decide +kernel
theorem dX9_others_28 : decode cX9_others 28 = .ok (.getfield 95, 3) := by decide +kernel
theorem dX9_others_31 : decode cX9_others 31 = .ok (.aload_n 0, 1) := by decide +kernel
theorem dX9_others_32 : decode cX9_others 32 = .ok (.getfield 95, 3) := by decide +kernel
theorem dX9_others_35 : decode cX9_others 35 = .ok (.invokevirtual 245, 3) := by decide +kernel
theorem dX9_others_38 : decode cX9_others 38 = .ok (.istore_n 3, 1) := by decide +kernel
theorem dX9_others_39 : decode cX9_others 39 = .ok (.iload_n 3, 1) := by decide +kernel
theorem dX9_others_40 : decode cX9_others 40 = .ok (.ifCond .lt 14, 3) := by decide +kernel
theorem dX9_others_43 : decode cX9_others 43 = .ok (.aload_n 0, 1) := by decide +kernel
theorem dX9_others_44 : decode cX9_others 44 = .ok (.iload_n 3, 1) := by decide +kernel
theorem dX9_others_45 : decode cX9_others 45 = .ok (.invokevirtual 248, 3) := by decide +kernel
theorem dX9_others_48 : decode cX9_others 48 = .ok (.ifCond .eq 6, 3) := by decide +kernel
theorem dX9_others_51 : decode cX9_others 51 = .ok (.iinc 1 1, 3) := by decide +kernel
theorem dX9_others_54 : decode cX9_others 54 = .ok (.iinc 2 1, 3) := by decide +kernel
theorem dX9_others_57 : decode cX9_others 57 = .ok (.goto (-46), 3) := by decide +kernel
theorem dX9_others_60 : decode cX9_others 60 = .ok (.iload_n 1, 1) := by decide +kernel
theorem dX9_others_61 : decode cX9_others 61 = .ok (.ireturn, 1) := by decide +kernel
theorem dX9_swap_0 : decode cX9_swap 0 = .ok (.iload_n 1, 1) := by decide +kernel
theorem dX9_swap_1 : decode cX9_swap 1 = .ok (.ifCond .lt 8, 3) := by decide +kernel
theorem dX9_swap_4 : decode cX9_swap 4 = .ok (.iload_n 2, 1) := by decide +kernel
theorem dX9_swap_5 : decode cX9_swap 5 = .ok (.iconst 2, 1) := by decide +kernel
theorem dX9_swap_6 : decode cX9_swap 6 = .ok (.if_icmp .ge 10, 3) := by decide +kernel
theorem dX9_swap_9 : decode cX9_swap 9 = .ok (.aload_n 0, 1) := by decide +kernel
theorem dX9_swap_10 : decode cX9_swap 10 = .ok (.bipush (-4), 2) := by decide +kernel
theorem dX9_swap_12 : decode cX9_swap 12 = .ok (.invokevirtual 108, 3) := by decide +kernel
theorem dX9_swap_15 : decode cX9_swap 15 = .ok (.ireturn, 1) := by decide +kernel
theorem dX9_swap_16 : decode cX9_swap 16 = .ok (.iload_n 1, 1) := by decide +kernel
theorem dX9_swap_17 : decode cX9_swap 17 = .ok (.sipush 9999, 3) := by decide +kernel
theorem dX9_swap_20 : decode cX9_swap 20 = .ok (.if_icmp .gt 8, 3) := by decide +kernel
theorem dX9_swap_23 : decode cX9_swap 23 = .ok (.iload_n 2, 1) := by decide +kernel
theorem dX9_swap_24 : decode cX9_swap 24 = .ok (.iconst 5, 1) := by decide +kernel
theorem dX9_swap_25 : decode cX9_swap 25 = .ok (.if_icmp .le 10, 3) := by decide +kernel
theorem dX9_swap_28 : decode cX9_swap 28 = .ok (.aload_n 0, 1) := by decide +kernel
theorem dX9_swap_29 : decode cX9_swap 29 = .ok (.bipush (-6), 2) := by decide +kernel
theorem dX9_swap_31 : decode cX9_swap 31 = .ok (.invokevirtual 108, 3) := by decide +kernel
theorem dX9_swap_34 : decode cX9_swap 34 = .ok (.ireturn, 1) := by decide +kernel
theorem dX9_swap_35 : decode cX9_swap 35 = .ok (.iload_n 3, 1) := by decide +kernel
theorem dX9_swap_36 : decode cX9_swap 36 = .ok (.iload_n 2, 1) := by decide +kernel
theorem dX9_swap_37 : decode cX9_swap 37 = .ok (.invokestatic 112, 3) := by decide +kernel
theorem dX9_swap_40 : decode cX9_swap 40 = .ok (.ifCond .ne 9, 3) := by decide +kernel
theorem dX9_swap_43 : decode cX9_swap 43 = .ok (.aload_n 0, 1) := by decide +kernel
theorem dX9_swap_44 : decode cX9_swap 44 = .ok (.iconst (-1), 1) := by decide +kernel
theorem dX9_swap_45 : decode cX9_swap 45 = .ok (.invokevirtual 108, 3) := by decide +kernel
theorem dX9_swap_48 : decode cX9_swap 48 = .ok (.ireturn, 1) := by decide +kernel
theorem dX9_swap_49 : decode cX9_swap 49 = .ok (.aload_n 0, 1) := by decide +kernel
theorem dX9_swap_50 : decode cX9_swap 50 = .ok (.iload_n 1, 1) := by decide +kernel
theorem dX9_swap_51 : decode cX9_swap 51 = .ok (.iload_n 2, 1) := by decide +kernel
theorem dX9_swap_52 : decode cX9_swap 52 = .ok (.invokevirtual 251, 3) := by decide +kernel
theorem dX9_swap_55 : decode cX9_swap 55 = .ok (.aload_n 0, 1) := by decide +kernel
theorem dX9_swap_56 : decode cX9_swap 56 = .ok (.getfield 23, 3) := by decide +kernel
theorem dX9_swap_59 : decode cX9_swap 59 = .ok (.iload_n 3, 1) := by decide +kernel
theorem dX9_swap_60 : decode cX9_swap 60 = .ok (.iaload, 1) := by decide +kernel
theorem dX9_swap_61 : decode cX9_swap 61 = .ok (.ireturn, 1) := by decide +kernel
theorem dX9_shut_0 : decode cX9_shut 0 = .ok (.aload_n 0, 1) := by decide +kernel
theorem dX9_shut_1 : decode cX9_shut 1 = .ok (.getfield 36, 3) := by decide +kernel
theorem dX9_shut_4 : decode cX9_shut 4 = .ok (.iload_n 1, 1) := by decide +kernel
theorem dX9_shut_5 : decode cX9_shut 5 = .ok (.invokevirtual 146, 3) := by decide +kernel
theorem dX9_shut_8 : decode cX9_shut 8 = .ok (.ifCond .ne 9, 3) := by decide +kernel
theorem dX9_shut_11 : decode cX9_shut 11 = .ok (.aload_n 0, 1) := by decide +kernel
theorem dX9_shut_12 : decode cX9_shut 12 = .ok (.iconst (-1), 1) := by decide +kernel
theorem dX9_shut_13 : decode cX9_shut 13 = .ok (.invokevirtual 108, 3) := by decide +kernel
theorem dX9_shut_16 : decode cX9_shut 16 = .ok (.ireturn, 1) := by decide +kernel
theorem dX9_shut_17 : decode cX9_shut 17 = .ok (.iload_n 2, 1) := by decide +kernel
theorem dX9_shut_18 : decode cX9_shut 18 = .ok (.ifCond .lt 8, 3) := by decide +kernel
theorem dX9_shut_21 : decode cX9_shut 21 = .ok (.iload_n 3, 1) := by decide +kernel
theorem dX9_shut_22 : decode cX9_shut 22 = .ok (.iload_n 2, 1) := by decide +kernel
theorem dX9_shut_23 : decode cX9_shut 23 = .ok (.if_icmp .ge 10, 3) := by decide +kernel
theorem dX9_shut_26 : decode cX9_shut 26 = .ok (.aload_n 0, 1) := by decide +kernel
theorem dX9_shut_27 : decode cX9_shut 27 = .ok (.bipush (-4), 2) := by decide +kernel
theorem dX9_shut_29 : decode cX9_shut 29 = .ok (.invokevirtual 108, 3) := by decide +kernel
theorem dX9_shut_32 : decode cX9_shut 32 = .ok (.ireturn, 1) := by decide +kernel
theorem dX9_shut_33 : decode cX9_shut 33 = .ok (.iload_n 3, 1) := by decide +kernel
theorem dX9_shut_34 : decode cX9_shut 34 = .ok (.sipush 1500, 3) := by decide +kernel
theorem dX9_shut_37 : decode cX9_shut 37 = .ok (.if_icmp .gt 16, 3) := by decide +kernel
theorem dX9_shut_40 : decode cX9_shut 40 = .ok (.aload_n 0, 1) := by decide +kernel
theorem dX9_shut_41 : decode cX9_shut 41 = .ok (.getfield 36, 3) := by decide +kernel
theorem dX9_shut_44 : decode cX9_shut 44 = .ok (.iload_n 1, 1) := by decide +kernel
theorem dX9_shut_45 : decode cX9_shut 45 = .ok (.invokevirtual 254, 3) := by decide +kernel
theorem dX9_shut_48 : decode cX9_shut 48 = .ok (.bipush 8, 2) := by decide +kernel
theorem dX9_shut_50 : decode cX9_shut 50 = .ok (.if_icmp .lt 10, 3) := by decide +kernel
theorem dX9_shut_53 : decode cX9_shut 53 = .ok (.aload_n 0, 1) := by decide +kernel
theorem dX9_shut_54 : decode cX9_shut 54 = .ok (.bipush (-6), 2) := by decide +kernel
theorem dX9_shut_56 : decode cX9_shut 56 = .ok (.invokevirtual 108, 3) := by decide +kernel
theorem dX9_shut_59 : decode cX9_shut 59 = .ok (.ireturn, 1) := by decide +kernel
theorem dX9_shut_60 : decode cX9_shut 60 = .ok (.aload_n 0, 1) := by decide +kernel
theorem dX9_shut_61 : decode cX9_shut 61 = .ok (.getfield 36, 3) := by decide +kernel
theorem dX9_shut_64 : decode cX9_shut 64 = .ok (.iload_n 1, 1) := by decide +kernel
theorem dX9_shut_65 : decode cX9_shut 65 = .ok (.iload_n 2, 1) := by decide +kernel
theorem dX9_shut_66 : decode cX9_shut 66 = .ok (.iload_n 3, 1) := by decide +kernel
theorem dX9_shut_67 : decode cX9_shut 67 = .ok (.invokevirtual 257, 3) := by decide +kernel
theorem dX9_shut_70 : decode cX9_shut 70 = .ok (.ireturn, 1) := by decide +kernel
theorem dX9_complaint_0 : decode cX9_complaint 0 = .ok (.iload_n 1, 1) := by decide +kernel
theorem dX9_complaint_1 : decode cX9_complaint 1 = .ok (.bipush 6, 2) := by decide +kernel
theorem dX9_complaint_3 : decode cX9_complaint 3 = .ok (.invokestatic 112, 3) := by decide +kernel
theorem dX9_complaint_6 : decode cX9_complaint 6 = .ok (.ifCond .eq 13, 3) := by decide +kernel
theorem dX9_complaint_9 : decode cX9_complaint 9 = .ok (.iload 4, 2) := by decide +kernel
theorem dX9_complaint_11 : decode cX9_complaint 11 = .ok (.bipush 8, 2) := by decide +kernel
theorem dX9_complaint_13 : decode cX9_complaint 13 = .ok (.invokestatic 112, 3) := by decide +kernel
theorem dX9_complaint_16 : decode cX9_complaint 16 = .ok (.ifCond .ne 9, 3) := by decide +kernel
theorem dX9_complaint_19 : decode cX9_complaint 19 = .ok (.aload_n 0, 1) := by decide +kernel
theorem dX9_complaint_20 : decode cX9_complaint 20 = .ok (.iconst (-1), 1) := by decide +kernel
theorem dX9_complaint_21 : decode cX9_complaint 21 = .ok (.invokevirtual 108, 3) := by decide +kernel
theorem dX9_complaint_24 : decode cX9_complaint 24 = .ok (.ireturn, 1) := by decide +kernel
theorem dX9_complaint_25 : decode cX9_complaint 25 = .ok (.iload_n 2, 1) := by decide +kernel
theorem dX9_complaint_26 : decode cX9_complaint 26 = .ok (.ifCond .lt 8, 3) := by decide +kernel
theorem dX9_complaint_29 : decode cX9_complaint 29 = .ok (.iload_n 3, 1) := by decide +kernel
theorem dX9_complaint_30 : decode cX9_complaint 30 = .ok (.iload_n 2, 1) := by decide +kernel
theorem dX9_complaint_31 : decode cX9_complaint 31 = .ok (.if_icmp .ge 10, 3) := by decide +kernel
theorem dX9_complaint_34 : decode cX9_complaint 34 = .ok (.aload_n 0, 1) := by decide +kernel
theorem dX9_complaint_35 : decode cX9_complaint 35 = .ok (.bipush (-4), 2) := by decide +kernel
theorem dX9_complaint_37 : decode cX9_complaint 37 = .ok (.invokevirtual 108, 3) := by decide +kernel
theorem dX9_complaint_40 : decode cX9_complaint 40 = .ok (.ireturn, 1) := by decide +kernel
theorem dX9_complaint_41 : decode cX9_complaint 41 = .ok (.iload_n 3, 1) := by decide +kernel
theorem dX9_complaint_42 : decode cX9_complaint 42 = .ok (.sipush 1500, 3) := by decide +kernel
theorem dX9_complaint_45 : decode cX9_complaint 45 = .ok (.if_icmp .gt 13, 3) := by decide +kernel
theorem dX9_complaint_48 : decode cX9_complaint 48 = .ok (.aload_n 0, 1) := by decide +kernel
theorem dX9_complaint_49 : decode cX9_complaint 49 = .ok (.getfield 77, 3) := by decide +kernel
theorem dX9_complaint_52 : decode cX9_complaint 52 = .ok (.invokevirtual 260, 3) := by decide +kernel
theorem dX9_complaint_55 : decode cX9_complaint 55 = .ok (.ifCond .eq 10, 3) := by decide +kernel
theorem dX9_complaint_58 : decode cX9_complaint 58 = .ok (.aload_n 0, 1) := by decide +kernel
theorem dX9_complaint_59 : decode cX9_complaint 59 = .ok (.bipush (-6), 2) := by decide +kernel
theorem dX9_complaint_61 : decode cX9_complaint 61 = .ok (.invokevirtual 108, 3) := by decide +kernel
theorem dX9_complaint_64 : decode cX9_complaint 64 = .ok (.ireturn, 1) := by decide +kernel
theorem dX9_complaint_65 : decode cX9_complaint 65 = .ok (.aload_n 0, 1) := by decide +kernel
theorem dX9_complaint_66 : decode cX9_complaint 66 = .ok (.getfield 77, 3) := by decide +kernel
theorem dX9_complaint_69 : decode cX9_complaint 69 = .ok (.iload_n 1, 1) := by decide +kernel
theorem dX9_complaint_70 : decode cX9_complaint 70 = .ok (.iload_n 2, 1) := by decide +kernel
theorem dX9_complaint_71 : decode cX9_complaint 71 = .ok (.iload_n 3, 1) := by decide +kernel
theorem dX9_complaint_72 : decode cX9_complaint 72 = .ok (.iload 4, 2) := by decide +kernel
theorem dX9_complaint_74 : decode cX9_complaint 74 = .ok (.invokevirtual 261, 3) := by decide +kernel
theorem dX9_complaint_77 : decode cX9_complaint 77 = .ok (.ireturn, 1) := by decide +kernel
theorem dX9_part_0 : decode cX9_part 0 = .ok (.aload_n 0, 1) := by decide +kernel
theorem dX9_part_1 : decode cX9_part 1 = .ok (.getfield 77, 3) := by decide +kernel
theorem dX9_part_4 : decode cX9_part 4 = .ok (.iload_n 1, 1) := by decide +kernel
theorem dX9_part_5 : decode cX9_part 5 = .ok (.invokevirtual 262, 3) := by decide +kernel
theorem dX9_part_8 : decode cX9_part 8 = .ok (.ifCond .eq 14, 3) := by decide +kernel
theorem dX9_part_11 : decode cX9_part 11 = .ok (.aload_n 0, 1) := by decide +kernel
theorem dX9_part_12 : decode cX9_part 12 = .ok (.getfield 36, 3) := by decide +kernel
theorem dX9_part_15 : decode cX9_part 15 = .ok (.iload_n 2, 1) := by decide +kernel
theorem dX9_part_16 : decode cX9_part 16 = .ok (.invokevirtual 146, 3) := by decide +kernel
theorem dX9_part_19 : decode cX9_part 19 = .ok (.ifCond .ne 9, 3) := by decide +kernel
theorem dX9_part_22 : decode cX9_part 22 = .ok (.aload_n 0, 1) := by decide +kernel
theorem dX9_part_23 : decode cX9_part 23 = .ok (.iconst (-1), 1) := by decide +kernel
theorem dX9_part_24 : decode cX9_part 24 = .ok (.invokevirtual 108, 3) := by decide +kernel
theorem dX9_part_27 : decode cX9_part 27 = .ok (.ireturn, 1) := by decide +kernel
theorem dX9_part_28 : decode cX9_part 28 = .ok (.iload_n 3, 1) := by decide +kernel
theorem dX9_part_29 : decode cX9_part 29 = .ok (.ifCond .lt 8, 3) := by decide +kernel
theorem dX9_part_32 : decode cX9_part 32 = .ok (.iload_n 3, 1) := by decide +kernel
theorem dX9_part_33 : decode cX9_part 33 = .ok (.iconst 1, 1) := by decide +kernel
theorem dX9_part_34 : decode cX9_part 34 = .ok (.if_icmp .le 10, 3) := by decide +kernel
theorem dX9_part_37 : decode cX9_part 37 = .ok (.aload_n 0, 1) := by decide +kernel
theorem dX9_part_38 : decode cX9_part 38 = .ok (.bipush (-2), 2) := by decide +kernel
theorem dX9_part_40 : decode cX9_part 40 = .ok (.invokevirtual 108, 3) := by decide +kernel
theorem dX9_part_43 : decode cX9_part 43 = .ok (.ireturn, 1) := by decide +kernel
theorem dX9_part_44 : decode cX9_part 44 = .ok (.aload_n 0, 1) := by decide +kernel
theorem dX9_part_45 : decode cX9_part 45 = .ok (.getfield 77, 3) := by decide +kernel
theorem dX9_part_48 : decode cX9_part 48 = .ok (.iload_n 1, 1) := by decide +kernel
theorem dX9_part_49 : decode cX9_part 49 = .ok (.iload_n 2, 1) := by decide +kernel
theorem dX9_part_50 : decode cX9_part 50 = .ok (.invokevirtual 263, 3) := by decide +kernel
theorem dX9_part_53 : decode cX9_part 53 = .ok (.iload_n 3, 1) := by decide +kernel
theorem dX9_part_54 : decode cX9_part 54 = .ok (.invokevirtual 238, 3) := by decide +kernel
theorem dX9_part_57 : decode cX9_part 57 = .ok (.l2i, 1) := by decide +kernel
theorem dX9_part_58 : decode cX9_part 58 = .ok (.ireturn, 1) := by decide +kernel
theorem dX9_joined_0 : decode cX9_joined 0 = .ok (.aload_n 0, 1) := by decide +kernel
theorem dX9_joined_1 : decode cX9_joined 1 = .ok (.getfield 77, 3) := by decide +kernel
theorem dX9_joined_4 : decode cX9_joined 4 = .ok (.iload_n 1, 1) := by decide +kernel
theorem dX9_joined_5 : decode cX9_joined 5 = .ok (.invokevirtual 262, 3) := by decide +kernel
theorem dX9_joined_8 : decode cX9_joined 8 = .ok (.ifCond .ne 9, 3) := by decide +kernel
theorem dX9_joined_11 : decode cX9_joined 11 = .ok (.aload_n 0, 1) := by decide +kernel
theorem dX9_joined_12 : decode cX9_joined 12 = .ok (.iconst (-1), 1) := by decide +kernel
theorem dX9_joined_13 : decode cX9_joined 13 = .ok (.invokevirtual 108, 3) := by decide +kernel
theorem dX9_joined_16 : decode cX9_joined 16 = .ok (.ireturn, 1) := by decide +kernel
theorem dX9_joined_17 : decode cX9_joined 17 = .ok (.aload_n 0, 1) := by decide +kernel
theorem dX9_joined_18 : decode cX9_joined 18 = .ok (.getfield 77, 3) := by decide +kernel
theorem dX9_joined_21 : decode cX9_joined 21 = .ok (.iload_n 1, 1) := by decide +kernel
theorem dX9_joined_22 : decode cX9_joined 22 = .ok (.invokevirtual 267, 3) := by decide +kernel
theorem dX9_joined_25 : decode cX9_joined 25 = .ok (.ireturn, 1) := by decide +kernel
theorem dX9_began_0 : decode cX9_began 0 = .ok (.iload_n 1, 1) := by decide +kernel
theorem dX9_began_1 : decode cX9_began 1 = .ok (.bipush 6, 2) := by decide +kernel
theorem dX9_began_3 : decode cX9_began 3 = .ok (.invokestatic 112, 3) := by decide +kernel
theorem dX9_began_6 : decode cX9_began 6 = .ok (.ifCond .ne 9, 3) := by decide +kernel
theorem dX9_began_9 : decode cX9_began 9 = .ok (.aload_n 0, 1) := by decide +kernel
theorem dX9_began_10 : decode cX9_began 10 = .ok (.iconst (-1), 1) := by decide +kernel
theorem dX9_began_11 : decode cX9_began 11 = .ok (.invokevirtual 108, 3) := by decide +kernel
theorem dX9_began_14 : decode cX9_began 14 = .ok (.ireturn, 1) := by decide +kernel
theorem dX9_began_15 : decode cX9_began 15 = .ok (.iload_n 2, 1) := by decide +kernel
theorem dX9_began_16 : decode cX9_began 16 = .ok (.ifCond .ge 10, 3) := by decide +kernel
theorem dX9_began_19 : decode cX9_began 19 = .ok (.aload_n 0, 1) := by decide +kernel
theorem dX9_began_20 : decode cX9_began 20 = .ok (.bipush (-4), 2) := by decide +kernel
theorem dX9_began_22 : decode cX9_began 22 = .ok (.invokevirtual 108, 3) := by decide +kernel
theorem dX9_began_25 : decode cX9_began 25 = .ok (.ireturn, 1) := by decide +kernel
theorem dX9_began_26 : decode cX9_began 26 = .ok (.iload_n 2, 1) := by decide +kernel
theorem dX9_began_27 : decode cX9_began 27 = .ok (.bipush 12, 2) := by decide +kernel
theorem dX9_began_29 : decode cX9_began 29 = .ok (.if_icmp .le 10, 3) := by decide +kernel
theorem dX9_began_32 : decode cX9_began 32 = .ok (.aload_n 0, 1) := by decide +kernel
theorem dX9_began_33 : decode cX9_began 33 = .ok (.bipush (-6), 2) := by decide +kernel
theorem dX9_began_35 : decode cX9_began 35 = .ok (.invokevirtual 108, 3) := by decide +kernel
theorem dX9_began_38 : decode cX9_began 38 = .ok (.ireturn, 1) := by decide +kernel
theorem dX9_began_39 : decode cX9_began 39 = .ok (.aload_n 0, 1) := by decide +kernel
theorem dX9_began_40 : decode cX9_began 40 = .ok (.getfield 84, 3) := by decide +kernel
theorem dX9_began_43 : decode cX9_began 43 = .ok (.iload_n 1, 1) := by decide +kernel
theorem dX9_began_44 : decode cX9_began 44 = .ok (.iload_n 2, 1) := by decide +kernel
theorem dX9_began_45 : decode cX9_began 45 = .ok (.invokevirtual 270, 3) := by decide +kernel
theorem dX9_began_48 : decode cX9_began 48 = .ok (.ireturn, 1) := by decide +kernel
theorem dX9_cases_0 : decode cX9_cases 0 = .ok (.iload_n 1, 1) := by decide +kernel
theorem dX9_cases_1 : decode cX9_cases 1 = .ok (.bipush 6, 2) := by decide +kernel
theorem dX9_cases_3 : decode cX9_cases 3 = .ok (.invokestatic 112, 3) := by decide +kernel
theorem dX9_cases_6 : decode cX9_cases 6 = .ok (.ifCond .eq 12, 3) := by decide +kernel
theorem dX9_cases_9 : decode cX9_cases 9 = .ok (.iload_n 2, 1) := by decide +kernel
theorem dX9_cases_10 : decode cX9_cases 10 = .ok (.bipush 12, 2) := by decide +kernel
theorem dX9_cases_12 : decode cX9_cases 12 = .ok (.invokestatic 112, 3) := by decide +kernel
theorem dX9_cases_15 : decode cX9_cases 15 = .ok (.ifCond .ne 9, 3) := by decide +kernel
theorem dX9_cases_18 : decode cX9_cases 18 = .ok (.aload_n 0, 1) := by decide +kernel
theorem dX9_cases_19 : decode cX9_cases 19 = .ok (.iconst (-1), 1) := by decide +kernel
theorem dX9_cases_20 : decode cX9_cases 20 = .ok (.invokevirtual 108, 3) := by decide +kernel
theorem dX9_cases_23 : decode cX9_cases 23 = .ok (.ireturn, 1) := by decide +kernel
theorem dX9_cases_24 : decode cX9_cases 24 = .ok (.iload_n 3, 1) := by decide +kernel
theorem dX9_cases_25 : decode cX9_cases 25 = .ok (.ifCond .ge 10, 3) := by decide +kernel
theorem dX9_cases_28 : decode cX9_cases 28 = .ok (.aload_n 0, 1) := by decide +kernel
theorem dX9_cases_29 : decode cX9_cases 29 = .ok (.bipush (-4), 2) := by decide +kernel
theorem dX9_cases_31 : decode cX9_cases 31 = .ok (.invokevirtual 108, 3) := by decide +kernel
theorem dX9_cases_34 : decode cX9_cases 34 = .ok (.ireturn, 1) := by decide +kernel
theorem dX9_cases_35 : decode cX9_cases 35 = .ok (.iload_n 3, 1) := by decide +kernel
theorem dX9_cases_36 : decode cX9_cases 36 = .ok (.sipush 999, 3) := by decide +kernel
theorem dX9_cases_39 : decode cX9_cases 39 = .ok (.if_icmp .le 10, 3) := by decide +kernel
theorem dX9_cases_42 : decode cX9_cases 42 = .ok (.aload_n 0, 1) := by decide +kernel
theorem dX9_cases_43 : decode cX9_cases 43 = .ok (.bipush (-6), 2) := by decide +kernel
theorem dX9_cases_45 : decode cX9_cases 45 = .ok (.invokevirtual 108, 3) := by decide +kernel
theorem dX9_cases_48 : decode cX9_cases 48 = .ok (.ireturn, 1) := by decide +kernel
theorem dX9_cases_49 : decode cX9_cases 49 = .ok (.aload_n 0, 1) := by decide +kernel
theorem dX9_cases_50 : decode cX9_cases 50 = .ok (.getfield 84, 3) := by decide +kernel
theorem dX9_cases_53 : decode cX9_cases 53 = .ok (.iload_n 1, 1) := by decide +kernel
theorem dX9_cases_54 : decode cX9_cases 54 = .ok (.iload_n 2, 1) := by decide +kernel
theorem dX9_cases_55 : decode cX9_cases 55 = .ok (.iload_n 3, 1) := by decide +kernel
theorem dX9_cases_56 : decode cX9_cases 56 = .ok (.invokevirtual 273, 3) := by decide +kernel
theorem dX9_cases_59 : decode cX9_cases 59 = .ok (.ireturn, 1) := by decide +kernel
theorem dX9_effect_0 : decode cX9_effect 0 = .ok (.iload_n 1, 1) := by decide +kernel
theorem dX9_effect_1 : decode cX9_effect 1 = .ok (.ifCond .lt 8, 3) := by decide +kernel
theorem dX9_effect_4 : decode cX9_effect 4 = .ok (.iload_n 1, 1) := by decide +kernel
theorem dX9_effect_5 : decode cX9_effect 5 = .ok (.iconst 1, 1) := by decide +kernel
theorem dX9_effect_6 : decode cX9_effect 6 = .ok (.if_icmp .le 10, 3) := by decide +kernel
theorem dX9_effect_9 : decode cX9_effect 9 = .ok (.aload_n 0, 1) := by decide +kernel
theorem dX9_effect_10 : decode cX9_effect 10 = .ok (.bipush (-2), 2) := by decide +kernel
theorem dX9_effect_12 : decode cX9_effect 12 = .ok (.invokevirtual 224, 3) := by decide +kernel
theorem dX9_effect_15 : decode cX9_effect 15 = .ok (.lreturn, 1) := by decide +kernel
theorem dX9_effect_16 : decode cX9_effect 16 = .ok (.aload_n 0, 1) := by decide +kernel
theorem dX9_effect_17 : decode cX9_effect 17 = .ok (.getfield 84, 3) := by decide +kernel
theorem dX9_effect_20 : decode cX9_effect 20 = .ok (.invokevirtual 276, 3) := by decide +kernel
theorem dX9_effect_23 : decode cX9_effect 23 = .ok (.ifCond .ne 10, 3) := by decide +kernel
theorem dX9_effect_26 : decode cX9_effect 26 = .ok (.aload_n 0, 1) := by decide +kernel
theorem dX9_effect_27 : decode cX9_effect 27 = .ok (.bipush (-3), 2) := by decide +kernel
theorem dX9_effect_29 : decode cX9_effect 29 = .ok (.invokevirtual 224, 3) := by decide +kernel
theorem dX9_effect_32 : decode cX9_effect 32 = .ok (.lreturn, 1) := by decide +kernel
theorem dX9_effect_33 : decode cX9_effect 33 = .ok (.aload_n 0, 1) := by decide +kernel
theorem dX9_effect_34 : decode cX9_effect 34 = .ok (.getfield 84, 3) := by decide +kernel
theorem dX9_effect_37 : decode cX9_effect 37 = .ok (.invokevirtual 279, 3) := by decide +kernel
theorem dX9_effect_40 : decode cX9_effect 40 = .ok (.iload_n 1, 1) := by decide +kernel
theorem dX9_effect_41 : decode cX9_effect 41 = .ok (.invokevirtual 238, 3) := by decide +kernel
theorem dX9_effect_44 : decode cX9_effect 44 = .ok (.lreturn, 1) := by decide +kernel
theorem dX9_chance_0 : decode cX9_chance 0 = .ok (.aload_n 0, 1) := by decide +kernel
theorem dX9_chance_1 : decode cX9_chance 1 = .ok (.getfield 84, 3) := by decide +kernel
theorem dX9_chance_4 : decode cX9_chance 4 = .ok (.invokevirtual 276, 3) := by decide +kernel
theorem dX9_chance_7 : decode cX9_chance 7 = .ok (.ifCond .eq 13, 3) := by decide +kernel
theorem dX9_chance_10 : decode cX9_chance 10 = .ok (.aload_n 0, 1) := by decide +kernel
theorem dX9_chance_11 : decode cX9_chance 11 = .ok (.getfield 84, 3) := by decide +kernel
theorem dX9_chance_14 : decode cX9_chance 14 = .ok (.invokevirtual 283, 3) := by decide +kernel
theorem dX9_chance_17 : decode cX9_chance 17 = .ok (.goto 5, 3) := by decide +kernel
theorem dX9_chance_20 : decode cX9_chance 20 = .ok (.bipush (-9), 2) := by decide +kernel
theorem dX9_chance_22 : decode cX9_chance 22 = .ok (.ireturn, 1) := by decide +kernel
theorem dX9_helped_0 : decode cX9_helped 0 = .ok (.aload_n 0, 1) := by decide +kernel
theorem dX9_helped_1 : decode cX9_helped 1 = .ok (.getfield 84, 3) := by decide +kernel
theorem dX9_helped_4 : decode cX9_helped 4 = .ok (.invokevirtual 276, 3) := by decide +kernel
theorem dX9_helped_7 : decode cX9_helped 7 = .ok (.ifCond .eq 19, 3) := by decide +kernel
theorem dX9_helped_10 : decode cX9_helped 10 = .ok (.aload_n 0, 1) := by decide +kernel
theorem dX9_helped_11 : decode cX9_helped 11 = .ok (.getfield 84, 3) := by decide +kernel
theorem dX9_helped_14 : decode cX9_helped 14 = .ok (.invokevirtual 279, 3) := by decide +kernel
theorem dX9_helped_17 : decode cX9_helped 17 = .ok (.iconst 0, 1) := by decide +kernel
theorem dX9_helped_18 : decode cX9_helped 18 = .ok (.invokevirtual 238, 3) := by decide +kernel
theorem dX9_helped_21 : decode cX9_helped 21 = .ok (.lconst 0, 1) := by decide +kernel
theorem dX9_helped_22 : decode cX9_helped 22 = .ok (.lcmp, 1) := by decide +kernel
theorem dX9_helped_23 : decode cX9_helped 23 = .ok (.ifCond .lt 5, 3) := by decide +kernel
theorem dX9_helped_26 : decode cX9_helped 26 = .ok (.iconst 0, 1) := by decide +kernel
theorem dX9_helped_27 : decode cX9_helped 27 = .ok (.ireturn, 1) := by decide +kernel
theorem dX9_helped_28 : decode cX9_helped 28 = .ok (.aload_n 0, 1) := by decide +kernel
theorem dX9_helped_29 : decode cX9_helped 29 = .ok (.getfield 84, 3) := by decide +kernel
theorem dX9_helped_32 : decode cX9_helped 32 = .ok (.invokevirtual 283, 3) := by decide +kernel
theorem dX9_helped_35 : decode cX9_helped 35 = .ok (.bipush 36, 2) := by decide +kernel
theorem dX9_helped_37 : decode cX9_helped 37 = .ok (.if_icmp .gt 7, 3) := by decide +kernel
theorem dX9_helped_40 : decode cX9_helped 40 = .ok (.iconst 1, 1) := by decide +kernel
theorem dX9_helped_41 : decode cX9_helped 41 = .ok (.goto 4, 3) := by decide +kernel
theorem dX9_helped_44 : decode cX9_helped 44 = .ok (.iconst 0, 1) := by decide +kernel
theorem dX9_helped_45 : decode cX9_helped 45 = .ok (.ireturn, 1) := by decide +kernel
theorem dX9_count_0 : decode cX9_count 0 = .ok (.iload_n 1, 1) := by decide +kernel
theorem dX9_count_1 : decode cX9_count 1 = .ok (.tableswitch 108 0 7 #[47, 52, 60, 68, 76, 84, 92, 100], 47) := by decide +kernel
theorem dX9_count_48 : decode cX9_count 48 = .ok (.aload_n 0, 1) := by decide +kernel
theorem dX9_count_49 : decode cX9_count 49 = .ok (.getfield 95, 3) := by decide +kernel
theorem dX9_count_52 : decode cX9_count 52 = .ok (.ireturn, 1) := by decide +kernel
theorem dX9_count_53 : decode cX9_count 53 = .ok (.aload_n 0, 1) := by decide +kernel
theorem dX9_count_54 : decode cX9_count 54 = .ok (.getfield 29, 3) := by decide +kernel
theorem dX9_count_57 : decode cX9_count 57 = .ok (.invokevirtual 286, 3) := by decide +kernel
theorem dX9_count_60 : decode cX9_count 60 = .ok (.ireturn, 1) := by decide +kernel
theorem dX9_count_61 : decode cX9_count 61 = .ok (.aload_n 0, 1) := by decide +kernel
theorem dX9_count_62 : decode cX9_count 62 = .ok (.getfield 36, 3) := by decide +kernel
theorem dX9_count_65 : decode cX9_count 65 = .ok (.invokevirtual 199, 3) := by decide +kernel
theorem dX9_count_68 : decode cX9_count 68 = .ok (.ireturn, 1) := by decide +kernel
theorem dX9_count_69 : decode cX9_count 69 = .ok (.aload_n 0, 1) := by decide +kernel
theorem dX9_count_70 : decode cX9_count 70 = .ok (.getfield 45, 3) := by decide +kernel
theorem dX9_count_73 : decode cX9_count 73 = .ok (.invokevirtual 164, 3) := by decide +kernel
theorem dX9_count_76 : decode cX9_count 76 = .ok (.ireturn, 1) := by decide +kernel
theorem dX9_count_77 : decode cX9_count 77 = .ok (.aload_n 0, 1) := by decide +kernel
theorem dX9_count_78 : decode cX9_count 78 = .ok (.getfield 45, 3) := by decide +kernel
theorem dX9_count_81 : decode cX9_count 81 = .ok (.invokevirtual 287, 3) := by decide +kernel
theorem dX9_count_84 : decode cX9_count 84 = .ok (.ireturn, 1) := by decide +kernel
theorem dX9_count_85 : decode cX9_count 85 = .ok (.aload_n 0, 1) := by decide +kernel
theorem dX9_count_86 : decode cX9_count 86 = .ok (.getfield 52, 3) := by decide +kernel
theorem dX9_count_89 : decode cX9_count 89 = .ok (.invokevirtual 290, 3) := by decide +kernel
theorem dX9_count_92 : decode cX9_count 92 = .ok (.ireturn, 1) := by decide +kernel
theorem dX9_count_93 : decode cX9_count 93 = .ok (.aload_n 0, 1) := by decide +kernel
theorem dX9_count_94 : decode cX9_count 94 = .ok (.getfield 77, 3) := by decide +kernel
theorem dX9_count_97 : decode cX9_count 97 = .ok (.invokevirtual 291, 3) := by decide +kernel
theorem dX9_count_100 : decode cX9_count 100 = .ok (.ireturn, 1) := by decide +kernel
theorem dX9_count_101 : decode cX9_count 101 = .ok (.aload_n 0, 1) := by decide +kernel
theorem dX9_count_102 : decode cX9_count 102 = .ok (.getfield 77, 3) := by decide +kernel
theorem dX9_count_105 : decode cX9_count 105 = .ok (.invokevirtual 292, 3) := by decide +kernel
theorem dX9_count_108 : decode cX9_count 108 = .ok (.ireturn, 1) := by decide +kernel
theorem dX9_count_109 : decode cX9_count 109 = .ok (.aload_n 0, 1) := by decide +kernel
theorem dX9_count_110 : decode cX9_count 110 = .ok (.iload_n 1, 1) := by decide +kernel
theorem dX9_count_111 : decode cX9_count 111 = .ok (.bipush 10, 2) := by decide +kernel
theorem dX9_count_113 : decode cX9_count 113 = .ok (.isub, 1) := by decide +kernel
theorem dX9_count_114 : decode cX9_count 114 = .ok (.invokevirtual 295, 3) := by decide +kernel
theorem dX9_count_117 : decode cX9_count 117 = .ok (.ireturn, 1) := by decide +kernel
theorem dX9_refused_0 : decode cX9_refused 0 = .ok (.iload_n 1, 1) := by decide +kernel
theorem dX9_refused_1 : decode cX9_refused 1 = .ok (.ifCond .ge 20, 3) := by decide +kernel
theorem dX9_refused_4 : decode cX9_refused 4 = .ok (.iload_n 1, 1) := by decide +kernel
theorem dX9_refused_5 : decode cX9_refused 5 = .ok (.bipush (-7), 2) := by decide +kernel
theorem dX9_refused_7 : decode cX9_refused 7 = .ok (.if_icmp .lt 14, 3) := by decide +kernel
theorem dX9_refused_10 : decode cX9_refused 10 = .ok (.aload_n 0, 1) := by decide +kernel
theorem dX9_refused_11 : decode cX9_refused 11 = .ok (.getfield 9, 3) := by decide +kernel
theorem dX9_refused_14 : decode cX9_refused 14 = .ok (.iload_n 1, 1) := by decide +kernel
theorem dX9_refused_15 : decode cX9_refused 15 = .ok (.ineg, 1) := by decide +kernel
theorem dX9_refused_16 : decode cX9_refused 16 = .ok (.dup2, 1) := by decide +kernel
theorem dX9_refused_17 : decode cX9_refused 17 = .ok (.iaload, 1) := by decide +kernel
theorem dX9_refused_18 : decode cX9_refused 18 = .ok (.iconst 1, 1) := by decide +kernel
theorem dX9_refused_19 : decode cX9_refused 19 = .ok (.iadd, 1) := by decide +kernel
theorem dX9_refused_20 : decode cX9_refused 20 = .ok (.iastore, 1) := by decide +kernel
theorem dX9_refused_21 : decode cX9_refused 21 = .ok (.iload_n 1, 1) := by decide +kernel
theorem dX9_refused_22 : decode cX9_refused 22 = .ok (.ireturn, 1) := by decide +kernel
theorem dX9_refusedLong_0 : decode cX9_refusedLong 0 = .ok (.ldc2_w 298, 3) := by decide +kernel
theorem dX9_refusedLong_3 : decode cX9_refusedLong 3 = .ok (.aload_n 0, 1) := by decide +kernel
theorem dX9_refusedLong_4 : decode cX9_refusedLong 4 = .ok (.iload_n 1, 1) := by decide +kernel
theorem dX9_refusedLong_5 : decode cX9_refusedLong 5 = .ok (.invokevirtual 108, 3) := by decide +kernel
theorem dX9_refusedLong_8 : decode cX9_refusedLong 8 = .ok (.i2l, 1) := by decide +kernel
theorem dX9_refusedLong_9 : decode cX9_refusedLong 9 = .ok (.lsub, 1) := by decide +kernel
theorem dX9_refusedLong_10 : decode cX9_refusedLong 10 = .ok (.lreturn, 1) := by decide +kernel
theorem dX9_refusalsOf_0 : decode cX9_refusalsOf 0 = .ok (.iload_n 1, 1) := by decide +kernel
theorem dX9_refusalsOf_1 : decode cX9_refusalsOf 1 = .ok (.iconst 1, 1) := by decide +kernel
theorem dX9_refusalsOf_2 : decode cX9_refusalsOf 2 = .ok (.if_icmp .lt 18, 3) := by decide +kernel
theorem dX9_refusalsOf_5 : decode cX9_refusalsOf 5 = .ok (.iload_n 1, 1) := by decide +kernel
theorem dX9_refusalsOf_6 : decode cX9_refusalsOf 6 = .ok (.bipush 7, 2) := by decide +kernel
theorem dX9_refusalsOf_8 : decode cX9_refusalsOf 8 = .ok (.if_icmp .gt 12, 3) := by decide +kernel
theorem dX9_refusalsOf_11 : decode cX9_refusalsOf 11 = .ok (.aload_n 0, 1) := by decide +kernel
theorem dX9_refusalsOf_12 : decode cX9_refusalsOf 12 = .ok (.getfield 9, 3) := by decide +kernel
theorem dX9_refusalsOf_15 : decode cX9_refusalsOf 15 = .ok (.iload_n 1, 1) := by decide +kernel
theorem dX9_refusalsOf_16 : decode cX9_refusalsOf 16 = .ok (.iaload, 1) := by decide +kernel
theorem dX9_refusalsOf_17 : decode cX9_refusalsOf 17 = .ok (.goto 5, 3) := by decide +kernel
theorem dX9_refusalsOf_20 : decode cX9_refusalsOf 20 = .ok (.bipush (-9), 2) := by decide +kernel
theorem dX9_refusalsOf_22 : decode cX9_refusalsOf 22 = .ok (.ireturn, 1) := by decide +kernel
theorem dX9_isWithin_0 : decode cX9_isWithin 0 = .ok (.iload_n 0, 1) := by decide +kernel
theorem dX9_isWithin_1 : decode cX9_isWithin 1 = .ok (.ifCond .lt 12, 3) := by decide +kernel
theorem dX9_isWithin_4 : decode cX9_isWithin 4 = .ok (.iload_n 0, 1) := by decide +kernel
theorem dX9_isWithin_5 : decode cX9_isWithin 5 = .ok (.iload_n 1, 1) := by decide +kernel
theorem dX9_isWithin_6 : decode cX9_isWithin 6 = .ok (.if_icmp .ge 7, 3) := by decide +kernel
theorem dX9_isWithin_9 : decode cX9_isWithin 9 = .ok (.iconst 1, 1) := by decide +kernel
theorem dX9_isWithin_10 : decode cX9_isWithin 10 = .ok (.goto 4, 3) := by decide +kernel
theorem dX9_isWithin_13 : decode cX9_isWithin 13 = .ok (.iconst 0, 1) := by decide +kernel
theorem dX9_isWithin_14 : decode cX9_isWithin 14 = .ok (.ireturn, 1) := by decide +kernel
theorem dX9_isKin_0 : decode cX9_isKin 0 = .ok (.aload_n 0, 1) := by decide +kernel
theorem dX9_isKin_1 : decode cX9_isKin 1 = .ok (.getfield 13, 3) := by decide +kernel
theorem dX9_isKin_4 : decode cX9_isKin 4 = .ok (.iload_n 1, 1) := by decide +kernel
theorem dX9_isKin_5 : decode cX9_isKin 5 = .ok (.bipush 10, 2) := by decide +kernel
theorem dX9_isKin_7 : decode cX9_isKin 7 = .ok (.imul, 1) := by decide +kernel
theorem dX9_isKin_8 : decode cX9_isKin 8 = .ok (.iload_n 2, 1) := by decide +kernel
theorem dX9_isKin_9 : decode cX9_isKin 9 = .ok (.iadd, 1) := by decide +kernel
theorem dX9_isKin_10 : decode cX9_isKin 10 = .ok (.baload, 1) := by decide +kernel
theorem dX9_isKin_11 : decode cX9_isKin 11 = .ok (.ireturn, 1) := by decide +kernel
theorem dX9_starOf_0 : decode cX9_starOf 0 = .ok (.aload_n 0, 1) := by decide +kernel
theorem dX9_starOf_1 : decode cX9_starOf 1 = .ok (.getfield 45, 3) := by decide +kernel
theorem dX9_starOf_4 : decode cX9_starOf 4 = .ok (.iload_n 1, 1) := by decide +kernel
theorem dX9_starOf_5 : decode cX9_starOf 5 = .ok (.iload_n 2, 1) := by decide +kernel
theorem dX9_starOf_6 : decode cX9_starOf 6 = .ok (.iload_n 3, 1) := by decide +kernel
theorem dX9_starOf_7 : decode cX9_starOf 7 = .ok (.invokevirtual 245, 3) := by decide +kernel
theorem dX9_starOf_10 : decode cX9_starOf 10 = .ok (.istore 4, 2) := by decide +kernel
theorem dX9_starOf_12 : decode cX9_starOf 12 = .ok (.iload 4, 2) := by decide +kernel
theorem dX9_starOf_14 : decode cX9_starOf 14 = .ok (.ifCond .ge 5, 3) := by decide +kernel
theorem dX9_starOf_17 : decode cX9_starOf 17 = .ok (.iconst 0, 1) := by decide +kernel
theorem dX9_starOf_18 : decode cX9_starOf 18 = .ok (.ireturn, 1) := by decide +kernel
theorem dX9_starOf_19 : decode cX9_starOf 19 = .ok (.aload_n 0, 1) := by decide +kernel
theorem dX9_starOf_20 : decode cX9_starOf 20 = .ok (.getfield 45, 3) := by decide +kernel
theorem dX9_starOf_23 : decode cX9_starOf 23 = .ok (.iload 4, 2) := by decide +kernel
theorem dX9_starOf_25 : decode cX9_starOf 25 = .ok (.invokevirtual 172, 3) := by decide +kernel
theorem dX9_starOf_28 : decode cX9_starOf 28 = .ok (.istore 5, 2) := by decide +kernel
theorem dX9_starOf_30 : decode cX9_starOf 30 = .ok (.aload_n 0, 1) := by decide +kernel
theorem dX9_starOf_31 : decode cX9_starOf 31 = .ok (.getfield 52, 3) := by decide +kernel
theorem dX9_starOf_34 : decode cX9_starOf 34 = .ok (.iload 5, 2) := by decide +kernel
theorem dX9_starOf_36 : decode cX9_starOf 36 = .ok (.aload_n 0, 1) := by decide +kernel
theorem dX9_starOf_37 : decode cX9_starOf 37 = .ok (.getfield 45, 3) := by decide +kernel
theorem dX9_starOf_40 : decode cX9_starOf 40 = .ok (.iload 4, 2) := by decide +kernel
theorem dX9_starOf_42 : decode cX9_starOf 42 = .ok (.iload 5, 2) := by decide +kernel
theorem dX9_starOf_44 : decode cX9_starOf 44 = .ok (.invokevirtual 188, 3) := by decide +kernel
theorem dX9_starOf_47 : decode cX9_starOf 47 = .ok (.i2l, 1) := by decide +kernel
theorem dX9_starOf_48 : decode cX9_starOf 48 = .ok (.lconst 1, 1) := by decide +kernel
theorem dX9_starOf_49 : decode cX9_starOf 49 = .ok (.invokevirtual 300, 3) := by decide +kernel
theorem dX9_starOf_52 : decode cX9_starOf 52 = .ok (.ireturn, 1) := by decide +kernel
theorem dX9_riskOf_0 : decode cX9_riskOf 0 = .ok (.aload_n 0, 1) := by decide +kernel
theorem dX9_riskOf_1 : decode cX9_riskOf 1 = .ok (.iload_n 1, 1) := by decide +kernel
theorem dX9_riskOf_2 : decode cX9_riskOf 2 = .ok (.aload_n 0, 1) := by decide +kernel
theorem dX9_riskOf_3 : decode cX9_riskOf 3 = .ok (.getfield 95, 3) := by decide +kernel
theorem dX9_riskOf_6 : decode cX9_riskOf 6 = .ok (.aload_n 0, 1) := by decide +kernel
theorem dX9_riskOf_7 : decode cX9_riskOf 7 = .ok (.getfield 95, 3) := by decide +kernel
theorem dX9_riskOf_10 : decode cX9_riskOf 10 = .ok (.invokevirtual 193, 3) := by decide +kernel
theorem dX9_riskOf_13 : decode cX9_riskOf 13 = .ok (.istore_n 2, 1) := by decide +kernel
theorem dX9_riskOf_14 : decode cX9_riskOf 14 = .ok (.iload_n 2, 1) := by decide +kernel
theorem dX9_riskOf_15 : decode cX9_riskOf 15 = .ok (.ifCond .ne 7, 3) := by decide +kernel
theorem dX9_riskOf_18 : decode cX9_riskOf 18 = .ok (.iconst 3, 1) := by decide +kernel
theorem dX9_riskOf_19 : decode cX9_riskOf 19 = .ok (.goto 6, 3) := by decide +kernel
theorem dX9_riskOf_22 : decode cX9_riskOf 22 = .ok (.iconst 5, 1) := by decide +kernel
theorem dX9_riskOf_23 : decode cX9_riskOf 23 = .ok (.iload_n 2, 1) := by decide +kernel
theorem dX9_riskOf_24 : decode cX9_riskOf 24 = .ok (.isub, 1) := by decide +kernel
theorem dX9_riskOf_25 : decode cX9_riskOf 25 = .ok (.istore_n 3, 1) := by decide +kernel
theorem dX9_riskOf_26 : decode cX9_riskOf 26 = .ok (.aload_n 0, 1) := by decide +kernel
theorem dX9_riskOf_27 : decode cX9_riskOf 27 = .ok (.getfield 36, 3) := by decide +kernel
theorem dX9_riskOf_30 : decode cX9_riskOf 30 = .ok (.iload_n 1, 1) := by decide +kernel
theorem dX9_riskOf_31 : decode cX9_riskOf 31 = .ok (.invokevirtual 304, 3) := by decide +kernel
theorem dX9_riskOf_34 : decode cX9_riskOf 34 = .ok (.bipush 50, 2) := by decide +kernel
theorem dX9_riskOf_36 : decode cX9_riskOf 36 = .ok (.idiv, 1) := by decide +kernel
theorem dX9_riskOf_37 : decode cX9_riskOf 37 = .ok (.istore 4, 2) := by decide +kernel
theorem dX9_riskOf_39 : decode cX9_riskOf 39 = .ok (.aload_n 0, 1) := by decide +kernel
theorem dX9_riskOf_40 : decode cX9_riskOf 40 = .ok (.getfield 17, 3) := by decide +kernel
theorem dX9_riskOf_43 : decode cX9_riskOf 43 = .ok (.aload_n 0, 1) := by decide +kernel
theorem dX9_riskOf_44 : decode cX9_riskOf 44 = .ok (.getfield 36, 3) := by decide +kernel
theorem dX9_riskOf_47 : decode cX9_riskOf 47 = .ok (.iload_n 1, 1) := by decide +kernel
theorem dX9_riskOf_48 : decode cX9_riskOf 48 = .ok (.invokevirtual 307, 3) := by decide +kernel
theorem dX9_riskOf_51 : decode cX9_riskOf 51 = .ok (.iaload, 1) := by decide +kernel
theorem dX9_riskOf_52 : decode cX9_riskOf 52 = .ok (.iload 4, 2) := by decide +kernel
theorem dX9_riskOf_54 : decode cX9_riskOf 54 = .ok (.iadd, 1) := by decide +kernel
theorem dX9_riskOf_55 : decode cX9_riskOf 55 = .ok (.bipush 8, 2) := by decide +kernel
theorem dX9_riskOf_57 : decode cX9_riskOf 57 = .ok (.iload_n 3, 1) := by decide +kernel
theorem dX9_riskOf_58 : decode cX9_riskOf 58 = .ok (.imul, 1) := by decide +kernel
theorem dX9_riskOf_59 : decode cX9_riskOf 59 = .ok (.iadd, 1) := by decide +kernel
theorem dX9_riskOf_60 : decode cX9_riskOf 60 = .ok (.ireturn, 1) := by decide +kernel
theorem dX9_dueOf_0 : decode cX9_dueOf 0 = .ok (.aload_n 0, 1) := by decide +kernel
theorem dX9_dueOf_1 : decode cX9_dueOf 1 = .ok (.getfield 45, 3) := by decide +kernel
theorem dX9_dueOf_4 : decode cX9_dueOf 4 = .ok (.iload_n 1, 1) := by decide +kernel
theorem dX9_dueOf_5 : decode cX9_dueOf 5 = .ok (.aload_n 0, 1) := by decide +kernel
theorem dX9_dueOf_6 : decode cX9_dueOf 6 = .ok (.getfield 95, 3) := by decide +kernel
theorem dX9_dueOf_9 : decode cX9_dueOf 9 = .ok (.aload_n 0, 1) := by decide +kernel
theorem dX9_dueOf_10 : decode cX9_dueOf 10 = .ok (.getfield 95, 3) := by decide +kernel
theorem dX9_dueOf_13 : decode cX9_dueOf 13 = .ok (.invokevirtual 245, 3) := by decide +kernel
theorem dX9_dueOf_16 : decode cX9_dueOf 16 = .ok (.istore_n 3, 1) := by decide +kernel
theorem dX9_dueOf_17 : decode cX9_dueOf 17 = .ok (.iload_n 3, 1) := by decide +kernel
theorem dX9_dueOf_18 : decode cX9_dueOf 18 = .ok (.ifCond .lt 8, 3) := by decide +kernel
theorem dX9_dueOf_21 : decode cX9_dueOf 21 = .ok (.iload_n 2, 1) := by decide +kernel
theorem dX9_dueOf_22 : decode cX9_dueOf 22 = .ok (.iconst 1, 1) := by decide +kernel
theorem dX9_dueOf_23 : decode cX9_dueOf 23 = .ok (.if_icmp .ge 5, 3) := by decide +kernel
theorem dX9_dueOf_26 : decode cX9_dueOf 26 = .ok (.iconst 0, 1) := by decide +kernel
theorem dX9_dueOf_27 : decode cX9_dueOf 27 = .ok (.ireturn, 1) := by decide +kernel
theorem dX9_dueOf_28 : decode cX9_dueOf 28 = .ok (.aload_n 0, 1) := by decide +kernel
theorem dX9_dueOf_29 : decode cX9_dueOf 29 = .ok (.getfield 45, 3) := by decide +kernel
theorem dX9_dueOf_32 : decode cX9_dueOf 32 = .ok (.iload_n 3, 1) := by decide +kernel
theorem dX9_dueOf_33 : decode cX9_dueOf 33 = .ok (.invokevirtual 172, 3) := by decide +kernel
theorem dX9_dueOf_36 : decode cX9_dueOf 36 = .ok (.bipush 20, 2) := by decide +kernel
theorem dX9_dueOf_38 : decode cX9_dueOf 38 = .ok (.sipush 400, 3) := by decide +kernel
theorem dX9_dueOf_41 : decode cX9_dueOf 41 = .ok (.iload_n 2, 1) := by decide +kernel
theorem dX9_dueOf_42 : decode cX9_dueOf 42 = .ok (.idiv, 1) := by decide +kernel
theorem dX9_dueOf_43 : decode cX9_dueOf 43 = .ok (.invokestatic 310, 3) := by decide +kernel
theorem dX9_dueOf_46 : decode cX9_dueOf 46 = .ok (.iadd, 1) := by decide +kernel
theorem dX9_dueOf_47 : decode cX9_dueOf 47 = .ok (.ireturn, 1) := by decide +kernel
theorem dX9_delayCost_0 : decode cX9_delayCost 0 = .ok (.iload_n 2, 1) := by decide +kernel
theorem dX9_delayCost_1 : decode cX9_delayCost 1 = .ok (.iload_n 1, 1) := by decide +kernel
theorem dX9_delayCost_2 : decode cX9_delayCost 2 = .ok (.if_icmp .gt 5, 3) := by decide +kernel
theorem dX9_delayCost_5 : decode cX9_delayCost 5 = .ok (.iconst 0, 1) := by decide +kernel
theorem dX9_delayCost_6 : decode cX9_delayCost 6 = .ok (.ireturn, 1) := by decide +kernel
theorem dX9_delayCost_7 : decode cX9_delayCost 7 = .ok (.iload_n 0, 1) := by decide +kernel
theorem dX9_delayCost_8 : decode cX9_delayCost 8 = .ok (.iload_n 2, 1) := by decide +kernel
theorem dX9_delayCost_9 : decode cX9_delayCost 9 = .ok (.iload_n 1, 1) := by decide +kernel
theorem dX9_delayCost_10 : decode cX9_delayCost 10 = .ok (.isub, 1) := by decide +kernel
theorem dX9_delayCost_11 : decode cX9_delayCost 11 = .ok (.imul, 1) := by decide +kernel
theorem dX9_delayCost_12 : decode cX9_delayCost 12 = .ok (.istore_n 3, 1) := by decide +kernel
theorem dX9_delayCost_13 : decode cX9_delayCost 13 = .ok (.iload_n 2, 1) := by decide +kernel
theorem dX9_delayCost_14 : decode cX9_delayCost 14 = .ok (.iload_n 1, 1) := by decide +kernel
theorem dX9_delayCost_15 : decode cX9_delayCost 15 = .ok (.isub, 1) := by decide +kernel
theorem dX9_delayCost_16 : decode cX9_delayCost 16 = .ok (.bipush 30, 2) := by decide +kernel
theorem dX9_delayCost_18 : decode cX9_delayCost 18 = .ok (.idiv, 1) := by decide +kernel
theorem dX9_delayCost_19 : decode cX9_delayCost 19 = .ok (.istore 4, 2) := by decide +kernel
theorem dX9_delayCost_21 : decode cX9_delayCost 21 = .ok (.iconst 0, 1) := by decide +kernel
theorem dX9_delayCost_22 : decode cX9_delayCost 22 = .ok (.istore 5, 2) := by decide +kernel
theorem dX9_delayCost_24 : decode cX9_delayCost 24 = .ok (.iload 5, 2) := by decide +kernel
theorem dX9_delayCost_26 : decode cX9_delayCost 26 = .ok (.iload 4, 2) := by decide +kernel
theorem dX9_delayCost_28 : decode cX9_delayCost 28 = .ok (.if_icmp .ge 16, 3) := by decide +kernel
theorem dX9_delayCost_31 : decode cX9_delayCost 31 = .ok (.iload_n 3, 1) := by decide +kernel
theorem dX9_delayCost_32 : decode cX9_delayCost 32 = .ok (.iload_n 3, 1) := by decide +kernel
theorem dX9_delayCost_33 : decode cX9_delayCost 33 = .ok (.bipush 10, 2) := by decide +kernel
theorem dX9_delayCost_35 : decode cX9_delayCost 35 = .ok (.idiv, 1) := by decide +kernel
theorem dX9_delayCost_36 : decode cX9_delayCost 36 = .ok (.iadd, 1) := by decide +kernel
theorem dX9_delayCost_37 : decode cX9_delayCost 37 = .ok (.istore_n 3, 1) := by decide +kernel
theorem dX9_delayCost_38 : decode cX9_delayCost 38 = .ok (.iinc 5 1, 3) := by decide +kernel
theorem dX9_delayCost_41 : decode cX9_delayCost 41 = .ok (.goto (-17), 3) := by decide +kernel
theorem dX9_delayCost_44 : decode cX9_delayCost 44 = .ok (.iload_n 3, 1) := by decide +kernel
theorem dX9_delayCost_45 : decode cX9_delayCost 45 = .ok (.ireturn, 1) := by decide +kernel
theorem dX9_planWeek_0 : decode cX9_planWeek 0 = .ok (.aload_n 0, 1) := by decide +kernel
theorem dX9_planWeek_1 : decode cX9_planWeek 1 = .ok (.invokevirtual 315, 3) := by decide +kernel
theorem dX9_planWeek_4 : decode cX9_planWeek 4 = .ok (.istore_n 2, 1) := by decide +kernel
theorem dX9_planWeek_5 : decode cX9_planWeek 5 = .ok (.aload_n 0, 1) := by decide +kernel
theorem dX9_planWeek_6 : decode cX9_planWeek 6 = .ok (.getfield 59, 3) := by decide +kernel
theorem dX9_planWeek_9 : decode cX9_planWeek 9 = .ok (.iload_n 1, 1) := by decide +kernel
theorem dX9_planWeek_10 : decode cX9_planWeek 10 = .ok (.aload_n 0, 1) := by decide +kernel
theorem dX9_planWeek_11 : decode cX9_planWeek 11 = .ok (.getfield 99, 3) := by decide +kernel
theorem dX9_planWeek_14 : decode cX9_planWeek 14 = .ok (.invokevirtual 318, 3) := by decide +kernel
theorem dX9_planWeek_17 : decode cX9_planWeek 17 = .ok (.iconst 0, 1) := by decide +kernel
theorem dX9_planWeek_18 : decode cX9_planWeek 18 = .ok (.istore_n 3, 1) := by decide +kernel
theorem dX9_planWeek_19 : decode cX9_planWeek 19 = .ok (.iload_n 3, 1) := by decide +kernel
theorem dX9_planWeek_20 : decode cX9_planWeek 20 = .ok (.aload_n 0, 1) := by decide +kernel
theorem dX9_planWeek_21 : decode cX9_planWeek 21 = .ok (.getfield 36, 3) := by decide +kernel
theorem dX9_planWeek_24 : decode cX9_planWeek 24 = .ok (.invokevirtual 199, 3) := by decide +kernel
theorem dX9_planWeek_27 : decode cX9_planWeek 27 = .ok (.if_icmp .ge 23, 3) := by decide +kernel
theorem dX9_planWeek_30 : decode cX9_planWeek 30 = .ok (.iload_n 2, 1) := by decide +kernel
theorem dX9_planWeek_31 : decode cX9_planWeek 31 = .ok (.iload_n 3, 1) := by decide +kernel
theorem dX9_planWeek_32 : decode cX9_planWeek 32 = .ok (.ishr, 1) := by decide +kernel
theorem dX9_planWeek_33 : decode cX9_planWeek 33 = .ok (.iconst 1, 1) := by decide +kernel
theorem dX9_planWeek_34 : decode cX9_planWeek 34 = .ok (.iand, 1) := by decide +kernel
theorem dX9_planWeek_35 : decode cX9_planWeek 35 = .ok (.ifCond .eq 9, 3) := by decide +kernel
theorem dX9_planWeek_38 : decode cX9_planWeek 38 = .ok (.aload_n 0, 1) := by decide +kernel
theorem dX9_planWeek_39 : decode cX9_planWeek 39 = .ok (.iload_n 3, 1) := by decide +kernel
theorem dX9_planWeek_40 : decode cX9_planWeek 40 = .ok (.iload_n 1, 1) := by decide +kernel
theorem dX9_planWeek_41 : decode cX9_planWeek 41 = .ok (.invokevirtual 321, 3) := by decide +kernel
theorem dX9_planWeek_44 : decode cX9_planWeek 44 = .ok (.iinc 3 1, 3) := by decide +kernel
theorem dX9_planWeek_47 : decode cX9_planWeek 47 = .ok (.goto (-28), 3) := by decide +kernel
theorem dX9_planWeek_50 : decode cX9_planWeek 50 = .ok (.aload_n 0, 1) := by decide +kernel
theorem dX9_planWeek_51 : decode cX9_planWeek 51 = .ok (.getfield 59, 3) := by decide +kernel
theorem dX9_planWeek_54 : decode cX9_planWeek 54 = .ok (.invokevirtual 324, 3) := by decide +kernel
theorem dX9_planWeek_57 : decode cX9_planWeek 57 = .ok (.ireturn, 1) := by decide +kernel
theorem dX9_dearestToLeave_0 : decode cX9_dearestToLeave 0 = .ok (.iconst 0, 1) := by decide +kernel
theorem dX9_dearestToLeave_1 : decode cX9_dearestToLeave 1 = .ok (.istore_n 1, 1) := by decide +kernel
theorem dX9_dearestToLeave_2 : decode cX9_dearestToLeave 2 = .ok (.iload_n 1, 1) := by decide +kernel
theorem dX9_dearestToLeave_3 : decode cX9_dearestToLeave 3 = .ok (.aload_n 0, 1) := by decide +kernel
theorem dX9_dearestToLeave_4 : decode cX9_dearestToLeave 4 = .ok (.getfield 36, 3) := by decide +kernel
theorem dX9_dearestToLeave_7 : decode cX9_dearestToLeave 7 = .ok (.invokevirtual 199, 3) := by decide +kernel
theorem dX9_dearestToLeave_10 : decode cX9_dearestToLeave 10 = .ok (.if_icmp .ge 38, 3) := by decide +kernel
theorem dX9_dearestToLeave_13 : decode cX9_dearestToLeave 13 = .ok (.aload_n 0, 1) := by decide +kernel
theorem dX9_dearestToLeave_14 : decode cX9_dearestToLeave 14 = .ok (.iload_n 1, 1) := by decide +kernel
theorem dX9_dearestToLeave_15 : decode cX9_dearestToLeave 15 = .ok (.invokevirtual 203, 3) := by decide +kernel
theorem dX9_dearestToLeave_18 : decode cX9_dearestToLeave 18 = .ok (.istore_n 2, 1) := by decide +kernel
theorem dX9_dearestToLeave_19 : decode cX9_dearestToLeave 19 = .ok (.aload_n 0, 1) := by decide +kernel
theorem dX9_dearestToLeave_20 : decode cX9_dearestToLeave 20 = .ok (.getfield 20, 3) := by decide +kernel
theorem dX9_dearestToLeave_23 : decode cX9_dearestToLeave 23 = .ok (.iload_n 1, 1) := by decide +kernel
theorem dX9_dearestToLeave_24 : decode cX9_dearestToLeave 24 = .ok (.iload_n 2, 1) := by decide +kernel
theorem dX9_dearestToLeave_25 : decode cX9_dearestToLeave 25 = .ok (.aload_n 0, 1) := by decide +kernel
theorem dX9_dearestToLeave_26 : decode cX9_dearestToLeave 26 = .ok (.iload_n 1, 1) := by decide +kernel
theorem dX9_dearestToLeave_27 : decode cX9_dearestToLeave 27 = .ok (.iload_n 2, 1) := by decide +kernel
theorem dX9_dearestToLeave_28 : decode cX9_dearestToLeave 28 = .ok (.invokevirtual 206, 3) := by decide +kernel
theorem dX9_dearestToLeave_31 : decode cX9_dearestToLeave 31 = .ok (.aload_n 0, 1) := by decide +kernel
theorem dX9_dearestToLeave_32 : decode cX9_dearestToLeave 32 = .ok (.getfield 95, 3) := by decide +kernel
theorem dX9_dearestToLeave_35 : decode cX9_dearestToLeave 35 = .ok (.bipush 7, 2) := by decide +kernel
theorem dX9_dearestToLeave_37 : decode cX9_dearestToLeave 37 = .ok (.iadd, 1) := by decide +kernel
theorem dX9_dearestToLeave_38 : decode cX9_dearestToLeave 38 = .ok (.invokestatic 209, 3) := by decide +kernel
theorem dX9_dearestToLeave_41 : decode cX9_dearestToLeave 41 = .ok (.iastore, 1) := by decide +kernel
theorem dX9_dearestToLeave_42 : decode cX9_dearestToLeave 42 = .ok (.iinc 1 1, 3) := by decide +kernel
theorem dX9_dearestToLeave_45 : decode cX9_dearestToLeave 45 = .ok (.goto (-43), 3) := by decide +kernel
theorem dX9_dearestToLeave_48 : decode cX9_dearestToLeave 48 = .ok (.iconst 0, 1) := by decide +kernel
theorem dX9_dearestToLeave_49 : decode cX9_dearestToLeave 49 = .ok (.istore_n 1, 1) := by decide +kernel
theorem dX9_dearestToLeave_50 : decode cX9_dearestToLeave 50 = .ok (.iconst 0, 1) := by decide +kernel
theorem dX9_dearestToLeave_51 : decode cX9_dearestToLeave 51 = .ok (.istore_n 2, 1) := by decide +kernel
theorem dX9_dearestToLeave_52 : decode cX9_dearestToLeave 52 = .ok (.iload_n 2, 1) := by decide +kernel
theorem dX9_dearestToLeave_53 : decode cX9_dearestToLeave 53 = .ok (.bipush 6, 2) := by decide +kernel
theorem dX9_dearestToLeave_55 : decode cX9_dearestToLeave 55 = .ok (.if_icmp .ge 25, 3) := by decide +kernel
theorem dX9_dearestToLeave_58 : decode cX9_dearestToLeave 58 = .ok (.aload_n 0, 1) := by decide +kernel
theorem dX9_dearestToLeave_59 : decode cX9_dearestToLeave 59 = .ok (.iload_n 1, 1) := by decide +kernel
theorem dX9_dearestToLeave_60 : decode cX9_dearestToLeave 60 = .ok (.invokevirtual 327, 3) := by decide +kernel
theorem dX9_dearestToLeave_63 : decode cX9_dearestToLeave 63 = .ok (.istore_n 3, 1) := by decide +kernel
theorem dX9_dearestToLeave_64 : decode cX9_dearestToLeave 64 = .ok (.iload_n 3, 1) := by decide +kernel
theorem dX9_dearestToLeave_65 : decode cX9_dearestToLeave 65 = .ok (.ifCond .lt 9, 3) := by decide +kernel
theorem dX9_dearestToLeave_68 : decode cX9_dearestToLeave 68 = .ok (.iload_n 1, 1) := by decide +kernel
theorem dX9_dearestToLeave_69 : decode cX9_dearestToLeave 69 = .ok (.iconst 1, 1) := by decide +kernel
theorem dX9_dearestToLeave_70 : decode cX9_dearestToLeave 70 = .ok (.iload_n 3, 1) := by decide +kernel
theorem dX9_dearestToLeave_71 : decode cX9_dearestToLeave 71 = .ok (.ishl, 1) := by decide +kernel
theorem dX9_dearestToLeave_72 : decode cX9_dearestToLeave 72 = .ok (.ior, 1) := by decide +kernel
theorem dX9_dearestToLeave_73 : decode cX9_dearestToLeave 73 = .ok (.istore_n 1, 1) := by decide +kernel
theorem dX9_dearestToLeave_74 : decode cX9_dearestToLeave 74 = .ok (.iinc 2 1, 3) := by decide +kernel
theorem dX9_dearestToLeave_77 : decode cX9_dearestToLeave 77 = .ok (.goto (-25), 3) := by decide +kernel
theorem dX9_dearestToLeave_80 : decode cX9_dearestToLeave 80 = .ok (.iload_n 1, 1) := by decide +kernel
theorem dX9_dearestToLeave_81 : decode cX9_dearestToLeave 81 = .ok (.ireturn, 1) := by decide +kernel
theorem dX9_dearestBeside_0 : decode cX9_dearestBeside 0 = .ok (.iconst (-1), 1) := by decide +kernel
theorem dX9_dearestBeside_1 : decode cX9_dearestBeside 1 = .ok (.istore_n 2, 1) := by decide +kernel
theorem dX9_dearestBeside_2 : decode cX9_dearestBeside 2 = .ok (.iconst 0, 1) := by decide +kernel
theorem dX9_dearestBeside_3 : decode cX9_dearestBeside 3 = .ok (.istore_n 3, 1) := by decide +kernel
theorem dX9_dearestBeside_4 : decode cX9_dearestBeside 4 = .ok (.iconst 0, 1) := by decide +kernel
theorem dX9_dearestBeside_5 : decode cX9_dearestBeside 5 = .ok (.istore 4, 2) := by decide +kernel
theorem dX9_dearestBeside_7 : decode cX9_dearestBeside 7 = .ok (.iload 4, 2) := by decide +kernel
theorem dX9_dearestBeside_9 : decode cX9_dearestBeside 9 = .ok (.aload_n 0, 1) := by decide +kernel
theorem dX9_dearestBeside_10 : decode cX9_dearestBeside 10 = .ok (.getfield 36, 3) := by decide +kernel
theorem dX9_dearestBeside_13 : decode cX9_dearestBeside 13 = .ok (.invokevirtual 199, 3) := by decide +kernel
theorem dX9_dearestBeside_16 : decode cX9_dearestBeside 16 = .ok (.if_icmp .ge 40, 3) := by decide +kernel
theorem dX9_dearestBeside_19 : decode cX9_dearestBeside 19 = .ok (.iload_n 1, 1) := by decide +kernel
theorem dX9_dearestBeside_20 : decode cX9_dearestBeside 20 = .ok (.iload 4, 2) := by decide +kernel
theorem dX9_dearestBeside_22 : decode cX9_dearestBeside 22 = .ok (.ishr, 1) := by decide +kernel
theorem dX9_dearestBeside_23 : decode cX9_dearestBeside 23 = .ok (.iconst 1, 1) := by decide +kernel
theorem dX9_dearestBeside_24 : decode cX9_dearestBeside 24 = .ok (.iand, 1) := by decide +kernel
theorem dX9_dearestBeside_25 : decode cX9_dearestBeside 25 = .ok (.ifCond .ne 25, 3) := by decide +kernel
theorem dX9_dearestBeside_28 : decode cX9_dearestBeside 28 = .ok (.aload_n 0, 1) := by decide +kernel
theorem dX9_dearestBeside_29 : decode cX9_dearestBeside 29 = .ok (.getfield 20, 3) := by decide +kernel
theorem dX9_dearestBeside_32 : decode cX9_dearestBeside 32 = .ok (.iload 4, 2) := by decide +kernel
theorem dX9_dearestBeside_34 : decode cX9_dearestBeside 34 = .ok (.iaload, 1) := by decide +kernel
theorem dX9_dearestBeside_35 : decode cX9_dearestBeside 35 = .ok (.iload_n 3, 1) := by decide +kernel
theorem dX9_dearestBeside_36 : decode cX9_dearestBeside 36 = .ok (.if_icmp .le 14, 3) := by decide +kernel
theorem dX9_dearestBeside_39 : decode cX9_dearestBeside 39 = .ok (.iload 4, 2) := by decide +kernel
theorem dX9_dearestBeside_41 : decode cX9_dearestBeside 41 = .ok (.istore_n 2, 1) := by decide +kernel
theorem dX9_dearestBeside_42 : decode cX9_dearestBeside 42 = .ok (.aload_n 0, 1) := by decide +kernel
theorem dX9_dearestBeside_43 : decode cX9_dearestBeside 43 = .ok (.getfield 20, 3) := by decide +kernel
theorem dX9_dearestBeside_46 : decode cX9_dearestBeside 46 = .ok (.iload 4, 2) := by decide +kernel
theorem dX9_dearestBeside_48 : decode cX9_dearestBeside 48 = .ok (.iaload, 1) := by decide +kernel
theorem dX9_dearestBeside_49 : decode cX9_dearestBeside 49 = .ok (.istore_n 3, 1) := by decide +kernel
theorem dX9_dearestBeside_50 : decode cX9_dearestBeside 50 = .ok (.iinc 4 1, 3) := by decide +kernel
theorem dX9_dearestBeside_53 : decode cX9_dearestBeside 53 = .ok (.goto (-46), 3) := by decide +kernel
theorem dX9_dearestBeside_56 : decode cX9_dearestBeside 56 = .ok (.iload_n 2, 1) := by decide +kernel
theorem dX9_dearestBeside_57 : decode cX9_dearestBeside 57 = .ok (.ireturn, 1) := by decide +kernel
theorem dX9_enterWeek_0 : decode cX9_enterWeek 0 = .ok (.aload_n 0, 1) := by decide +kernel
theorem dX9_enterWeek_1 : decode cX9_enterWeek 1 = .ok (.iload_n 1, 1) := by decide +kernel
theorem dX9_enterWeek_2 : decode cX9_enterWeek 2 = .ok (.invokevirtual 203, 3) := by decide +kernel
theorem dX9_enterWeek_5 : decode cX9_enterWeek 5 = .ok (.istore_n 3, 1) := by decide +kernel
theorem dX9_enterWeek_6 : decode cX9_enterWeek 6 = .ok (.aload_n 0, 1) := by decide +kernel
theorem dX9_enterWeek_7 : decode cX9_enterWeek 7 = .ok (.iload_n 1, 1) := by decide +kernel
theorem dX9_enterWeek_8 : decode cX9_enterWeek 8 = .ok (.iload_n 3, 1) := by decide +kernel
theorem dX9_enterWeek_9 : decode cX9_enterWeek 9 = .ok (.invokevirtual 206, 3) := by decide +kernel
theorem dX9_enterWeek_12 : decode cX9_enterWeek 12 = .ok (.istore 4, 2) := by decide +kernel
theorem dX9_enterWeek_14 : decode cX9_enterWeek 14 = .ok (.aload_n 0, 1) := by decide +kernel
theorem dX9_enterWeek_15 : decode cX9_enterWeek 15 = .ok (.getfield 36, 3) := by decide +kernel
theorem dX9_enterWeek_18 : decode cX9_enterWeek 18 = .ok (.iload_n 1, 1) := by decide +kernel
theorem dX9_enterWeek_19 : decode cX9_enterWeek 19 = .ok (.invokevirtual 147, 3) := by decide +kernel
theorem dX9_enterWeek_22 : decode cX9_enterWeek 22 = .ok (.ifCond .eq 7, 3) := by decide +kernel
theorem dX9_enterWeek_25 : decode cX9_enterWeek 25 = .ok (.iconst 2, 1) := by decide +kernel
theorem dX9_enterWeek_26 : decode cX9_enterWeek 26 = .ok (.goto 4, 3) := by decide +kernel
theorem dX9_enterWeek_29 : decode cX9_enterWeek 29 = .ok (.iconst 1, 1) := by decide +kernel
theorem dX9_enterWeek_30 : decode cX9_enterWeek 30 = .ok (.istore 5, 2) := by decide +kernel
theorem dX9_enterWeek_32 : decode cX9_enterWeek 32 = .ok (.aload_n 0, 1) := by decide +kernel
theorem dX9_enterWeek_33 : decode cX9_enterWeek 33 = .ok (.getfield 59, 3) := by decide +kernel
theorem dX9_enterWeek_36 : decode cX9_enterWeek 36 = .ok (.iload_n 1, 1) := by decide +kernel
theorem dX9_enterWeek_37 : decode cX9_enterWeek 37 = .ok (.iload 5, 2) := by decide +kernel
theorem dX9_enterWeek_39 : decode cX9_enterWeek 39 = .ok (.aload_n 0, 1) := by decide +kernel
theorem dX9_enterWeek_40 : decode cX9_enterWeek 40 = .ok (.aload_n 0, 1) := by decide +kernel
theorem dX9_enterWeek_41 : decode cX9_enterWeek 41 = .ok (.getfield 36, 3) := by decide +kernel
theorem dX9_enterWeek_44 : decode cX9_enterWeek 44 = .ok (.iload_n 1, 1) := by decide +kernel
theorem dX9_enterWeek_45 : decode cX9_enterWeek 45 = .ok (.invokevirtual 157, 3) := by decide +kernel
theorem dX9_enterWeek_48 : decode cX9_enterWeek 48 = .ok (.iload_n 2, 1) := by decide +kernel
theorem dX9_enterWeek_49 : decode cX9_enterWeek 49 = .ok (.invokevirtual 330, 3) := by decide +kernel
theorem dX9_enterWeek_52 : decode cX9_enterWeek 52 = .ok (.invokevirtual 333, 3) := by decide +kernel
theorem dX9_enterWeek_55 : decode cX9_enterWeek 55 = .ok (.istore 6, 2) := by decide +kernel
theorem dX9_enterWeek_57 : decode cX9_enterWeek 57 = .ok (.iconst 0, 1) := by decide +kernel
theorem dX9_enterWeek_58 : decode cX9_enterWeek 58 = .ok (.istore 7, 2) := by decide +kernel
theorem dX9_enterWeek_60 : decode cX9_enterWeek 60 = .ok (.iload 7, 2) := by decide +kernel
theorem dX9_enterWeek_62 : decode cX9_enterWeek 62 = .ok (.iconst 5, 1) := by decide +kernel
theorem dX9_enterWeek_63 : decode cX9_enterWeek 63 = .ok (.if_icmp .ge 33, 3) := by decide +kernel
theorem dX9_enterWeek_66 : decode cX9_enterWeek 66 = .ok (.aload_n 0, 1) := by decide +kernel
theorem dX9_enterWeek_67 : decode cX9_enterWeek 67 = .ok (.getfield 59, 3) := by decide +kernel
theorem dX9_enterWeek_70 : decode cX9_enterWeek 70 = .ok (.iload 6, 2) := by decide +kernel
theorem dX9_enterWeek_72 : decode cX9_enterWeek 72 = .ok (.iload 7, 2) := by decide +kernel
theorem dX9_enterWeek_74 : decode cX9_enterWeek 74 = .ok (.iload_n 3, 1) := by decide +kernel
theorem dX9_enterWeek_75 : decode cX9_enterWeek 75 = .ok (.iload 4, 2) := by decide +kernel
theorem dX9_enterWeek_77 : decode cX9_enterWeek 77 = .ok (.aload_n 0, 1) := by decide +kernel
theorem dX9_enterWeek_78 : decode cX9_enterWeek 78 = .ok (.getfield 95, 3) := by decide +kernel
theorem dX9_enterWeek_81 : decode cX9_enterWeek 81 = .ok (.iload 7, 2) := by decide +kernel
theorem dX9_enterWeek_83 : decode cX9_enterWeek 83 = .ok (.iadd, 1) := by decide +kernel
theorem dX9_enterWeek_84 : decode cX9_enterWeek 84 = .ok (.invokestatic 209, 3) := by decide +kernel
theorem dX9_enterWeek_87 : decode cX9_enterWeek 87 = .ok (.invokevirtual 334, 3) := by decide +kernel
theorem dX9_enterWeek_90 : decode cX9_enterWeek 90 = .ok (.iinc 7 1, 3) := by decide +kernel
theorem dX9_enterWeek_93 : decode cX9_enterWeek 93 = .ok (.goto (-33), 3) := by decide +kernel
theorem dX9_enterWeek_96 : decode cX9_enterWeek 96 = .ok (.aload_n 0, 1) := by decide +kernel
theorem dX9_enterWeek_97 : decode cX9_enterWeek 97 = .ok (.getfield 59, 3) := by decide +kernel
theorem dX9_enterWeek_100 : decode cX9_enterWeek 100 = .ok (.iload 6, 2) := by decide +kernel
theorem dX9_enterWeek_102 : decode cX9_enterWeek 102 = .ok (.iconst 5, 1) := by decide +kernel
theorem dX9_enterWeek_103 : decode cX9_enterWeek 103 = .ok (.iconst 2, 1) := by decide +kernel
theorem dX9_enterWeek_104 : decode cX9_enterWeek 104 = .ok (.aload_n 0, 1) := by decide +kernel
theorem dX9_enterWeek_105 : decode cX9_enterWeek 105 = .ok (.getfield 20, 3) := by decide +kernel
theorem dX9_enterWeek_108 : decode cX9_enterWeek 108 = .ok (.iload_n 1, 1) := by decide +kernel
theorem dX9_enterWeek_109 : decode cX9_enterWeek 109 = .ok (.iaload, 1) := by decide +kernel
theorem dX9_enterWeek_110 : decode cX9_enterWeek 110 = .ok (.imul, 1) := by decide +kernel
theorem dX9_enterWeek_111 : decode cX9_enterWeek 111 = .ok (.invokevirtual 334, 3) := by decide +kernel
theorem dX9_enterWeek_114 : decode cX9_enterWeek 114 = .ok (.return_, 1) := by decide +kernel
theorem dX9_handsFree_0 : decode cX9_handsFree 0 = .ok (.iconst 0, 1) := by decide +kernel
theorem dX9_handsFree_1 : decode cX9_handsFree 1 = .ok (.istore_n 3, 1) := by decide +kernel
theorem dX9_handsFree_2 : decode cX9_handsFree 2 = .ok (.iconst 0, 1) := by decide +kernel
theorem dX9_handsFree_3 : decode cX9_handsFree 3 = .ok (.istore 4, 2) := by decide +kernel
theorem dX9_handsFree_5 : decode cX9_handsFree 5 = .ok (.iload 4, 2) := by decide +kernel
theorem dX9_handsFree_7 : decode cX9_handsFree 7 = .ok (.iload_n 2, 1) := by decide +kernel
theorem dX9_handsFree_8 : decode cX9_handsFree 8 = .ok (.if_icmp .ge 32, 3) := by decide +kernel
theorem dX9_handsFree_11 : decode cX9_handsFree 11 = .ok (.iload 4, 2) := by decide +kernel
theorem dX9_handsFree_13 : decode cX9_handsFree 13 = .ok (.iconst 5, 1) := by decide +kernel
theorem dX9_handsFree_14 : decode cX9_handsFree 14 = .ok (.if_icmp .ge 26, 3) := by decide +kernel
theorem dX9_handsFree_17 : decode cX9_handsFree 17 = .ok (.aload_n 0, 1) := by decide +kernel
theorem dX9_handsFree_18 : decode cX9_handsFree 18 = .ok (.iload 4, 2) := by decide +kernel
theorem dX9_handsFree_20 : decode cX9_handsFree 20 = .ok (.iload_n 1, 1) := by decide +kernel
theorem dX9_handsFree_21 : decode cX9_handsFree 21 = .ok (.invokevirtual 154, 3) := by decide +kernel
theorem dX9_handsFree_24 : decode cX9_handsFree 24 = .ok (.ifCond .ne 10, 3) := by decide +kernel
theorem dX9_handsFree_27 : decode cX9_handsFree 27 = .ok (.iload_n 3, 1) := by decide +kernel
theorem dX9_handsFree_28 : decode cX9_handsFree 28 = .ok (.iconst 1, 1) := by decide +kernel
theorem dX9_handsFree_29 : decode cX9_handsFree 29 = .ok (.iload 4, 2) := by decide +kernel
theorem dX9_handsFree_31 : decode cX9_handsFree 31 = .ok (.ishl, 1) := by decide +kernel
theorem dX9_handsFree_32 : decode cX9_handsFree 32 = .ok (.ior, 1) := by decide +kernel
theorem dX9_handsFree_33 : decode cX9_handsFree 33 = .ok (.istore_n 3, 1) := by decide +kernel
theorem dX9_handsFree_34 : decode cX9_handsFree 34 = .ok (.iinc 4 1, 3) := by decide +kernel
theorem dX9_handsFree_37 : decode cX9_handsFree 37 = .ok (.goto (-32), 3) := by decide +kernel
theorem dX9_handsFree_40 : decode cX9_handsFree 40 = .ok (.iload_n 3, 1) := by decide +kernel
theorem dX9_handsFree_41 : decode cX9_handsFree 41 = .ok (.ireturn, 1) := by decide +kernel
theorem dX9_evenScore_0 : decode cX9_evenScore 0 = .ok (.aload_n 0, 1) := by decide +kernel
theorem dX9_evenScore_1 : decode cX9_evenScore 1 = .ok (.getfield 68, 3) := by decide +kernel
theorem dX9_evenScore_4 : decode cX9_evenScore 4 = .ok (.aload_n 0, 1) := by decide +kernel
theorem dX9_evenScore_5 : decode cX9_evenScore 5 = .ok (.getfield 45, 3) := by decide +kernel
theorem dX9_evenScore_8 : decode cX9_evenScore 8 = .ok (.iload_n 1, 1) := by decide +kernel
theorem dX9_evenScore_9 : decode cX9_evenScore 9 = .ok (.invokevirtual 337, 3) := by decide +kernel
theorem dX9_evenScore_12 : decode cX9_evenScore 12 = .ok (.invokevirtual 234, 3) := by decide +kernel
theorem dX9_evenScore_15 : decode cX9_evenScore 15 = .ok (.astore_n 2, 1) := by decide +kernel
theorem dX9_evenScore_16 : decode cX9_evenScore 16 = .ok (.aload_n 2, 1) := by decide +kernel
theorem dX9_evenScore_17 : decode cX9_evenScore 17 = .ok (.iconst 1, 1) := by decide +kernel
theorem dX9_evenScore_18 : decode cX9_evenScore 18 = .ok (.invokevirtual 238, 3) := by decide +kernel
theorem dX9_evenScore_21 : decode cX9_evenScore 21 = .ok (.lstore_n 3, 1) := by decide +kernel
theorem dX9_evenScore_22 : decode cX9_evenScore 22 = .ok (.aload_n 0, 1) := by decide +kernel
theorem dX9_evenScore_23 : decode cX9_evenScore 23 = .ok (.getfield 91, 3) := by decide +kernel
theorem dX9_evenScore_26 : decode cX9_evenScore 26 = .ok (.aload_n 0, 1) := by decide +kernel
theorem dX9_evenScore_27 : decode cX9_evenScore 27 = .ok (.getfield 45, 3) := by decide +kernel
theorem dX9_evenScore_30 : decode cX9_evenScore 30 = .ok (.iload_n 1, 1) := by decide +kernel
theorem dX9_evenScore_31 : decode cX9_evenScore 31 = .ok (.invokevirtual 340, 3) := by decide +kernel
theorem dX9_evenScore_34 : decode cX9_evenScore 34 = .ok (.i2l, 1) := by decide +kernel
theorem dX9_evenScore_35 : decode cX9_evenScore 35 = .ok (.lload_n 3, 1) := by decide +kernel
theorem dX9_evenScore_36 : decode cX9_evenScore 36 = .ok (.lmul, 1) := by decide +kernel
theorem dX9_evenScore_37 : decode cX9_evenScore 37 = .ok (.aload_n 2, 1) := by decide +kernel
theorem dX9_evenScore_38 : decode cX9_evenScore 38 = .ok (.iconst 0, 1) := by decide +kernel
theorem dX9_evenScore_39 : decode cX9_evenScore 39 = .ok (.invokevirtual 238, 3) := by decide +kernel
theorem dX9_evenScore_42 : decode cX9_evenScore 42 = .ok (.lsub, 1) := by decide +kernel
theorem dX9_evenScore_43 : decode cX9_evenScore 43 = .ok (.lload_n 3, 1) := by decide +kernel
theorem dX9_evenScore_44 : decode cX9_evenScore 44 = .ok (.invokevirtual 343, 3) := by decide +kernel
theorem dX9_evenScore_47 : decode cX9_evenScore 47 = .ok (.return_, 1) := by decide +kernel
theorem dX9_isOtherWhenEvened_0 : decode cX9_isOtherWhenEvened 0 = .ok (.aload_n 0, 1) := by decide +kernel
theorem dX9_isOtherWhenEvened_1 : decode cX9_isOtherWhenEvened 1 = .ok (.getfield 45, 3) := by decide +kernel
theorem dX9_isOtherWhenEvened_4 : decode cX9_isOtherWhenEvened 4 = .ok (.iload_n 1, 1) := by decide +kernel
theorem dX9_isOtherWhenEvened_5 : decode cX9_isOtherWhenEvened 5 = .ok (.invokevirtual 172, 3) := by decide +kernel
theorem dX9_isOtherWhenEvened_8 : decode cX9_isOtherWhenEvened 8 = .ok (.istore_n 2, 1) := by decide +kernel
theorem dX9_isOtherWhenEvened_9 : decode cX9_isOtherWhenEvened 9 = .ok (.aload_n 0, 1) := by decide +kernel
theorem dX9_isOtherWhenEvened_10 : decode cX9_isOtherWhenEvened 10 = .ok (.getfield 52, 3) := by decide +kernel
theorem dX9_isOtherWhenEvened_13 : decode cX9_isOtherWhenEvened 13 = .ok (.iload_n 2, 1) := by decide +kernel
theorem dX9_isOtherWhenEvened_14 : decode cX9_isOtherWhenEvened 14 = .ok (.aload_n 0, 1) := by decide +kernel
theorem dX9_isOtherWhenEvened_15 : decode cX9_isOtherWhenEvened 15 = .ok (.getfield 45, 3) := by decide +kernel
theorem dX9_isOtherWhenEvened_18 : decode cX9_isOtherWhenEvened 18 = .ok (.iload_n 1, 1) := by decide +kernel
theorem dX9_isOtherWhenEvened_19 : decode cX9_isOtherWhenEvened 19 = .ok (.invokevirtual 340, 3) := by decide +kernel
theorem dX9_isOtherWhenEvened_22 : decode cX9_isOtherWhenEvened 22 = .ok (.i2l, 1) := by decide +kernel
theorem dX9_isOtherWhenEvened_23 : decode cX9_isOtherWhenEvened 23 = .ok (.lconst 1, 1) := by decide +kernel
theorem dX9_isOtherWhenEvened_24 : decode cX9_isOtherWhenEvened 24 = .ok (.invokevirtual 300, 3) := by decide +kernel
theorem dX9_isOtherWhenEvened_27 : decode cX9_isOtherWhenEvened 27 = .ok (.istore_n 3, 1) := by decide +kernel
theorem dX9_isOtherWhenEvened_28 : decode cX9_isOtherWhenEvened 28 = .ok (.aload_n 0, 1) := by decide +kernel
theorem dX9_isOtherWhenEvened_29 : decode cX9_isOtherWhenEvened 29 = .ok (.iload_n 1, 1) := by decide +kernel
theorem dX9_isOtherWhenEvened_30 : decode cX9_isOtherWhenEvened 30 = .ok (.invokevirtual 241, 3) := by decide +kernel
theorem dX9_isOtherWhenEvened_33 : decode cX9_isOtherWhenEvened 33 = .ok (.iload_n 3, 1) := by decide +kernel
theorem dX9_isOtherWhenEvened_34 : decode cX9_isOtherWhenEvened 34 = .ok (.ifCond .eq 35, 3) := by decide +kernel
theorem dX9_isOtherWhenEvened_37 : decode cX9_isOtherWhenEvened 37 = .ok (.iload_n 3, 1) := by decide +kernel
theorem dX9_isOtherWhenEvened_38 : decode cX9_isOtherWhenEvened 38 = .ok (.aload_n 0, 1) := by decide +kernel
theorem dX9_isOtherWhenEvened_39 : decode cX9_isOtherWhenEvened 39 = .ok (.getfield 52, 3) := by decide +kernel
theorem dX9_isOtherWhenEvened_42 : decode cX9_isOtherWhenEvened 42 = .ok (.iload_n 2, 1) := by decide +kernel
theorem dX9_isOtherWhenEvened_43 : decode cX9_isOtherWhenEvened 43 = .ok (.aload_n 0, 1) := by decide +kernel
theorem dX9_isOtherWhenEvened_44 : decode cX9_isOtherWhenEvened 44 = .ok (.getfield 91, 3) := by decide +kernel
theorem dX9_isOtherWhenEvened_47 : decode cX9_isOtherWhenEvened 47 = .ok (.iconst 0, 1) := by decide +kernel
theorem dX9_isOtherWhenEvened_48 : decode cX9_isOtherWhenEvened 48 = .ok (.invokevirtual 238, 3) := by decide +kernel
theorem dX9_isOtherWhenEvened_51 : decode cX9_isOtherWhenEvened 51 = .ok (.aload_n 0, 1) := by decide +kernel
theorem dX9_isOtherWhenEvened_52 : decode cX9_isOtherWhenEvened 52 = .ok (.getfield 91, 3) := by decide +kernel
theorem dX9_isOtherWhenEvened_55 : decode cX9_isOtherWhenEvened 55 = .ok (.iconst 1, 1) := by decide +kernel
theorem dX9_isOtherWhenEvened_56 : decode cX9_isOtherWhenEvened 56 = .ok (.invokevirtual 238, 3) := by decide +kernel
theorem dX9_isOtherWhenEvened_59 : decode cX9_isOtherWhenEvened 59 = .ok (.invokevirtual 300, 3) := by decide +kernel
theorem dX9_isOtherWhenEvened_62 : decode cX9_isOtherWhenEvened 62 = .ok (.if_icmp .eq 7, 3) := by decide +kernel
theorem dX9_isOtherWhenEvened_65 : decode cX9_isOtherWhenEvened 65 = .ok (.iconst 1, 1) := by decide +kernel
theorem dX9_isOtherWhenEvened_66 : decode cX9_isOtherWhenEvened 66 = .ok (.goto 4, 3) := by decide +kernel
theorem dX9_isOtherWhenEvened_69 : decode cX9_isOtherWhenEvened 69 = .ok (.iconst 0, 1) := by decide +kernel
theorem dX9_isOtherWhenEvened_70 : decode cX9_isOtherWhenEvened 70 = .ok (.ireturn, 1) := by decide +kernel
theorem dX9_dealSeats_0 : decode cX9_dealSeats 0 = .ok (.iconst 0, 1) := by decide +kernel
theorem dX9_dealSeats_1 : decode cX9_dealSeats 1 = .ok (.istore_n 3, 1) := by decide +kernel
theorem dX9_dealSeats_2 : decode cX9_dealSeats 2 = .ok (.iload_n 3, 1) := by decide +kernel
theorem dX9_dealSeats_3 : decode cX9_dealSeats 3 = .ok (.iload_n 2, 1) := by decide +kernel
theorem dX9_dealSeats_4 : decode cX9_dealSeats 4 = .ok (.if_icmp .ge 21, 3) := by decide +kernel
theorem dX9_dealSeats_7 : decode cX9_dealSeats 7 = .ok (.iload_n 3, 1) := by decide +kernel
theorem dX9_dealSeats_8 : decode cX9_dealSeats 8 = .ok (.iconst 5, 1) := by decide +kernel
theorem dX9_dealSeats_9 : decode cX9_dealSeats 9 = .ok (.if_icmp .ge 16, 3) := by decide +kernel
theorem dX9_dealSeats_12 : decode cX9_dealSeats 12 = .ok (.aload_n 0, 1) := by decide +kernel
theorem dX9_dealSeats_13 : decode cX9_dealSeats 13 = .ok (.getfield 23, 3) := by decide +kernel
theorem dX9_dealSeats_16 : decode cX9_dealSeats 16 = .ok (.iload_n 3, 1) := by decide +kernel
theorem dX9_dealSeats_17 : decode cX9_dealSeats 17 = .ok (.iload_n 3, 1) := by decide +kernel
theorem dX9_dealSeats_18 : decode cX9_dealSeats 18 = .ok (.iastore, 1) := by decide +kernel
theorem dX9_dealSeats_19 : decode cX9_dealSeats 19 = .ok (.iinc 3 1, 3) := by decide +kernel
theorem dX9_dealSeats_22 : decode cX9_dealSeats 22 = .ok (.goto (-20), 3) := by decide +kernel
theorem dX9_dealSeats_25 : decode cX9_dealSeats 25 = .ok (.iload_n 1, 1) := by decide +kernel
theorem dX9_dealSeats_26 : decode cX9_dealSeats 26 = .ok (.istore_n 3, 1) := by decide +kernel
theorem dX9_dealSeats_27 : decode cX9_dealSeats 27 = .ok (.iload_n 2, 1) := by decide +kernel
theorem dX9_dealSeats_28 : decode cX9_dealSeats 28 = .ok (.iconst 5, 1) := by decide +kernel
theorem dX9_dealSeats_29 : decode cX9_dealSeats 29 = .ok (.invokestatic 347, 3) := by decide +kernel
theorem dX9_dealSeats_32 : decode cX9_dealSeats 32 = .ok (.iconst 1, 1) := by decide +kernel
theorem dX9_dealSeats_33 : decode cX9_dealSeats 33 = .ok (.isub, 1) := by decide +kernel
theorem dX9_dealSeats_34 : decode cX9_dealSeats 34 = .ok (.istore 4, 2) := by decide +kernel
theorem dX9_dealSeats_36 : decode cX9_dealSeats 36 = .ok (.iload 4, 2) := by decide +kernel
theorem dX9_dealSeats_38 : decode cX9_dealSeats 38 = .ok (.iconst 1, 1) := by decide +kernel
theorem dX9_dealSeats_39 : decode cX9_dealSeats 39 = .ok (.if_icmp .lt 63, 3) := by decide +kernel
theorem dX9_dealSeats_42 : decode cX9_dealSeats 42 = .ok (.iload_n 3, 1) := by decide +kernel
theorem dX9_dealSeats_43 : decode cX9_dealSeats 43 = .ok (.bipush 37, 2) := by decide +kernel
theorem dX9_dealSeats_45 : decode cX9_dealSeats 45 = .ok (.imul, 1) := by decide +kernel
theorem dX9_dealSeats_46 : decode cX9_dealSeats 46 = .ok (.bipush 101, 2) := by decide +kernel
theorem dX9_dealSeats_48 : decode cX9_dealSeats 48 = .ok (.iadd, 1) := by decide +kernel
theorem dX9_dealSeats_49 : decode cX9_dealSeats 49 = .ok (.sipush 10007, 3) := by decide +kernel
theorem dX9_dealSeats_52 : decode cX9_dealSeats 52 = .ok (.irem, 1) := by decide +kernel
theorem dX9_dealSeats_53 : decode cX9_dealSeats 53 = .ok (.istore_n 3, 1) := by decide +kernel
theorem dX9_dealSeats_54 : decode cX9_dealSeats 54 = .ok (.iload_n 3, 1) := by decide +kernel
theorem dX9_dealSeats_55 : decode cX9_dealSeats 55 = .ok (.iload 4, 2) := by decide +kernel
theorem dX9_dealSeats_57 : decode cX9_dealSeats 57 = .ok (.iconst 1, 1) := by decide +kernel
theorem dX9_dealSeats_58 : decode cX9_dealSeats 58 = .ok (.iadd, 1) := by decide +kernel
theorem dX9_dealSeats_59 : decode cX9_dealSeats 59 = .ok (.invokestatic 350, 3) := by decide +kernel
theorem dX9_dealSeats_62 : decode cX9_dealSeats 62 = .ok (.istore 5, 2) := by decide +kernel
theorem dX9_dealSeats_64 : decode cX9_dealSeats 64 = .ok (.aload_n 0, 1) := by decide +kernel
theorem dX9_dealSeats_65 : decode cX9_dealSeats 65 = .ok (.getfield 23, 3) := by decide +kernel
theorem dX9_dealSeats_68 : decode cX9_dealSeats 68 = .ok (.iload 4, 2) := by decide +kernel
theorem dX9_dealSeats_70 : decode cX9_dealSeats 70 = .ok (.iaload, 1) := by decide +kernel
theorem dX9_dealSeats_71 : decode cX9_dealSeats 71 = .ok (.istore 6, 2) := by decide +kernel
theorem dX9_dealSeats_73 : decode cX9_dealSeats 73 = .ok (.aload_n 0, 1) := by decide +kernel
theorem dX9_dealSeats_74 : decode cX9_dealSeats 74 = .ok (.getfield 23, 3) := by decide +kernel
theorem dX9_dealSeats_77 : decode cX9_dealSeats 77 = .ok (.iload 4, 2) := by decide +kernel
theorem dX9_dealSeats_79 : decode cX9_dealSeats 79 = .ok (.aload_n 0, 1) := by decide +kernel
theorem dX9_dealSeats_80 : decode cX9_dealSeats 80 = .ok (.getfield 23, 3) := by decide +kernel
theorem dX9_dealSeats_83 : decode cX9_dealSeats 83 = .ok (.iload 5, 2) := by decide +kernel
theorem dX9_dealSeats_85 : decode cX9_dealSeats 85 = .ok (.iaload, 1) := by decide +kernel
theorem dX9_dealSeats_86 : decode cX9_dealSeats 86 = .ok (.iastore, 1) := by decide +kernel
theorem dX9_dealSeats_87 : decode cX9_dealSeats 87 = .ok (.aload_n 0, 1) := by decide +kernel
theorem dX9_dealSeats_88 : decode cX9_dealSeats 88 = .ok (.getfield 23, 3) := by decide +kernel
theorem dX9_dealSeats_91 : decode cX9_dealSeats 91 = .ok (.iload 5, 2) := by decide +kernel
theorem dX9_dealSeats_93 : decode cX9_dealSeats 93 = .ok (.iload 6, 2) := by decide +kernel
theorem dX9_dealSeats_95 : decode cX9_dealSeats 95 = .ok (.iastore, 1) := by decide +kernel
theorem dX9_dealSeats_96 : decode cX9_dealSeats 96 = .ok (.iinc 4 (-1), 3) := by decide +kernel
theorem dX9_dealSeats_99 : decode cX9_dealSeats 99 = .ok (.goto (-63), 3) := by decide +kernel
theorem dX9_dealSeats_102 : decode cX9_dealSeats 102 = .ok (.return_, 1) := by decide +kernel
theorem dX10_init_0 : decode cX10_init 0 = .ok (.aload_n 0, 1) := by decide +kernel
theorem dX10_init_1 : decode cX10_init 1 = .ok (.invokespecial 1, 3) := by decide +kernel
theorem dX10_init_4 : decode cX10_init 4 = .ok (.aload_n 0, 1) := by decide +kernel
theorem dX10_init_5 : decode cX10_init 5 = .ok (.bipush 40, 2) := by decide +kernel
theorem dX10_init_7 : decode cX10_init 7 = .ok (.newarray .int, 2) := by decide +kernel
theorem dX10_init_9 : decode cX10_init 9 = .ok (.putfield 7, 3) := by decide +kernel
theorem dX10_init_12 : decode cX10_init 12 = .ok (.aload_n 0, 1) := by decide +kernel
theorem dX10_init_13 : decode cX10_init 13 = .ok (.bipush 40, 2) := by decide +kernel
theorem dX10_init_15 : decode cX10_init 15 = .ok (.newarray .int, 2) := by decide +kernel
theorem dX10_init_17 : decode cX10_init 17 = .ok (.putfield 13, 3) := by decide +kernel
theorem dX10_init_20 : decode cX10_init 20 = .ok (.aload_n 0, 1) := by decide +kernel
theorem dX10_init_21 : decode cX10_init 21 = .ok (.bipush 40, 2) := by decide +kernel
theorem dX10_init_23 : decode cX10_init 23 = .ok (.newarray .int, 2) := by decide +kernel
theorem dX10_init_25 : decode cX10_init 25 = .ok (.putfield 16, 3) := by decide +kernel
theorem dX10_init_28 : decode cX10_init 28 = .ok (.aload_n 0, 1) := by decide +kernel
theorem dX10_init_29 : decode cX10_init 29 = .ok (.bipush 40, 2) := by decide +kernel
theorem dX10_init_31 : decode cX10_init 31 = .ok (.newarray .int, 2) := by decide +kernel
theorem dX10_init_33 : decode cX10_init 33 = .ok (.putfield 19, 3) := by decide +kernel
theorem dX10_init_36 : decode cX10_init 36 = .ok (.aload_n 0, 1) := by decide +kernel
theorem dX10_init_37 : decode cX10_init 37 = .ok (.bipush 40, 2) := by decide +kernel
theorem dX10_init_39 : decode cX10_init 39 = .ok (.newarray .int, 2) := by decide +kernel
theorem dX10_init_41 : decode cX10_init 41 = .ok (.putfield 22, 3) := by decide +kernel
theorem dX10_init_44 : decode cX10_init 44 = .ok (.aload_n 0, 1) := by decide +kernel
theorem dX10_init_45 : decode cX10_init 45 = .ok (.iconst 5, 1) := by decide +kernel
theorem dX10_init_46 : decode cX10_init 46 = .ok (.newarray .int, 2) := by decide +kernel
theorem dX10_init_48 : decode cX10_init 48 = .ok (.dup, 1) := by decide +kernel
theorem dX10_init_49 : decode cX10_init 49 = .ok (.iconst 0, 1) := by decide +kernel
theorem dX10_init_50 : decode cX10_init 50 = .ok (.bipush 60, 2) := by decide +kernel
theorem dX10_init_52 : decode cX10_init 52 = .ok (.iastore, 1) := by decide +kernel
theorem dX10_init_53 : decode cX10_init 53 = .ok (.dup, 1) := by decide +kernel
theorem dX10_init_54 : decode cX10_init 54 = .ok (.iconst 1, 1) := by decide +kernel
theorem dX10_init_55 : decode cX10_init 55 = .ok (.bipush 60, 2) := by decide +kernel
theorem dX10_init_57 : decode cX10_init 57 = .ok (.iastore, 1) := by decide +kernel
theorem dX10_init_58 : decode cX10_init 58 = .ok (.dup, 1) := by decide +kernel
theorem dX10_init_59 : decode cX10_init 59 = .ok (.iconst 2, 1) := by decide +kernel
theorem dX10_init_60 : decode cX10_init 60 = .ok (.bipush 60, 2) := by decide +kernel
theorem dX10_init_62 : decode cX10_init 62 = .ok (.iastore, 1) := by decide +kernel
theorem dX10_init_63 : decode cX10_init 63 = .ok (.dup, 1) := by decide +kernel
theorem dX10_init_64 : decode cX10_init 64 = .ok (.iconst 3, 1) := by decide +kernel
theorem dX10_init_65 : decode cX10_init 65 = .ok (.bipush 60, 2) := by decide +kernel
theorem dX10_init_67 : decode cX10_init 67 = .ok (.iastore, 1) := by decide +kernel
theorem dX10_init_68 : decode cX10_init 68 = .ok (.dup, 1) := by decide +kernel
theorem dX10_init_69 : decode cX10_init 69 = .ok (.iconst 4, 1) := by decide +kernel
theorem dX10_init_70 : decode cX10_init 70 = .ok (.bipush 60, 2) := by decide +kernel
theorem dX10_init_72 : decode cX10_init 72 = .ok (.iastore, 1) := by decide +kernel
theorem dX10_init_73 : decode cX10_init 73 = .ok (.putfield 25, 3) := by decide +kernel
theorem dX10_init_76 : decode cX10_init 76 = .ok (.aload_n 0, 1) := by decide +kernel
theorem dX10_init_77 : decode cX10_init 77 = .ok (.bipush 20, 2) := by decide +kernel
theorem dX10_init_79 : decode cX10_init 79 = .ok (.newarray .int, 2) := by decide +kernel
theorem dX10_init_81 : decode cX10_init 81 = .ok (.putfield 28, 3) := by decide +kernel
theorem dX10_init_84 : decode cX10_init 84 = .ok (.aload_n 0, 1) := by decide +kernel
theorem dX10_init_85 : decode cX10_init 85 = .ok (.bipush 20, 2) := by decide +kernel
theorem dX10_init_87 : decode cX10_init 87 = .ok (.newarray .int, 2) := by decide +kernel
theorem dX10_init_89 : decode cX10_init 89 = .ok (.putfield 31, 3) := by decide +kernel
theorem dX10_init_92 : decode cX10_init 92 = .ok (.aload_n 0, 1) := by decide +kernel
theorem dX10_init_93 : decode cX10_init 93 = .ok (.bipush 20, 2) := by decide +kernel
theorem dX10_init_95 : decode cX10_init 95 = .ok (.newarray .int, 2) := by decide +kernel
theorem dX10_init_97 : decode cX10_init 97 = .ok (.putfield 34, 3) := by decide +kernel
theorem dX10_init_100 : decode cX10_init 100 = .ok (.aload_n 0, 1) := by decide +kernel
theorem dX10_init_101 : decode cX10_init 101 = .ok (.bipush 20, 2) := by decide +kernel
theorem dX10_init_103 : decode cX10_init 103 = .ok (.newarray .int, 2) := by decide +kernel
theorem dX10_init_105 : decode cX10_init 105 = .ok (.putfield 37, 3) := by decide +kernel
theorem dX10_init_108 : decode cX10_init 108 = .ok (.aload_n 0, 1) := by decide +kernel
theorem dX10_init_109 : decode cX10_init 109 = .ok (.bipush 20, 2) := by decide +kernel
theorem dX10_init_111 : decode cX10_init 111 = .ok (.newarray .int, 2) := by decide +kernel
theorem dX10_init_113 : decode cX10_init 113 = .ok (.putfield 40, 3) := by decide +kernel
theorem dX10_init_116 : decode cX10_init 116 = .ok (.aload_n 0, 1) := by decide +kernel
theorem dX10_init_117 : decode cX10_init 117 = .ok (.bipush 20, 2) := by decide +kernel
theorem dX10_init_119 : decode cX10_init 119 = .ok (.newarray .boolean, 2) := by decide +kernel
theorem dX10_init_121 : decode cX10_init 121 = .ok (.putfield 43, 3) := by decide +kernel
theorem dX10_init_124 : decode cX10_init 124 = .ok (.aload_n 0, 1) := by decide +kernel
theorem dX10_init_125 : decode cX10_init 125 = .ok (.bipush 20, 2) := by decide +kernel
theorem dX10_init_127 : decode cX10_init 127 = .ok (.newarray .int, 2) := by decide +kernel
theorem dX10_init_129 : decode cX10_init 129 = .ok (.putfield 47, 3) := by decide +kernel
theorem dX10_init_132 : decode cX10_init 132 = .ok (.aload_n 0, 1) := by decide +kernel
theorem dX10_init_133 : decode cX10_init 133 = .ok (.bipush 50, 2) := by decide +kernel
theorem dX10_init_135 : decode cX10_init 135 = .ok (.newarray .boolean, 2) := by decide +kernel
theorem dX10_init_137 : decode cX10_init 137 = .ok (.putfield 50, 3) := by decide +kernel
theorem dX10_init_140 : decode cX10_init 140 = .ok (.aload_n 0, 1) := by decide +kernel
theorem dX10_init_141 : decode cX10_init 141 = .ok (.bipush 80, 2) := by decide +kernel
theorem dX10_init_143 : decode cX10_init 143 = .ok (.newarray .int, 2) := by decide +kernel
theorem dX10_init_145 : decode cX10_init 145 = .ok (.putfield 53, 3) := by decide +kernel
theorem dX10_init_148 : decode cX10_init 148 = .ok (.aload_n 0, 1) := by decide +kernel
theorem dX10_init_149 : decode cX10_init 149 = .ok (.bipush 80, 2) := by decide +kernel
theorem dX10_init_151 : decode cX10_init 151 = .ok (.newarray .int, 2) := by decide +kernel
theorem dX10_init_153 : decode cX10_init 153 = .ok (.putfield 56, 3) := by decide +kernel
theorem dX10_init_156 : decode cX10_init 156 = .ok (.aload_n 0, 1) := by decide +kernel
theorem dX10_init_157 : decode cX10_init 157 = .ok (.bipush 80, 2) := by decide +kernel
theorem dX10_init_159 : decode cX10_init 159 = .ok (.newarray .int, 2) := by decide +kernel
theorem dX10_init_161 : decode cX10_init 161 = .ok (.putfield 59, 3) := by decide +kernel
theorem dX10_init_164 : decode cX10_init 164 = .ok (.aload_n 0, 1) := by decide +kernel
theorem dX10_init_165 : decode cX10_init 165 = .ok (.bipush 80, 2) := by decide +kernel
theorem dX10_init_167 : decode cX10_init 167 = .ok (.newarray .int, 2) := by decide +kernel
theorem dX10_init_169 : decode cX10_init 169 = .ok (.putfield 62, 3) := by decide +kernel
theorem dX10_init_172 : decode cX10_init 172 = .ok (.aload_n 0, 1) := by decide +kernel
theorem dX10_init_173 : decode cX10_init 173 = .ok (.bipush 80, 2) := by decide +kernel
theorem dX10_init_175 : decode cX10_init 175 = .ok (.newarray .int, 2) := by decide +kernel
theorem dX10_init_177 : decode cX10_init 177 = .ok (.putfield 65, 3) := by decide +kernel
theorem dX10_init_180 : decode cX10_init 180 = .ok (.aload_n 0, 1) := by decide +kernel
theorem dX10_init_181 : decode cX10_init 181 = .ok (.sipush 3200, 3) := by decide +kernel
theorem dX10_init_184 : decode cX10_init 184 = .ok (.newarray .int, 2) := by decide +kernel
theorem dX10_init_186 : decode cX10_init 186 = .ok (.putfield 68, 3) := by decide +kernel
theorem dX10_init_189 : decode cX10_init 189 = .ok (.aload_n 0, 1) := by decide +kernel
theorem dX10_init_190 : decode cX10_init 190 = .ok (.bipush 8, 2) := by decide +kernel
theorem dX10_init_192 : decode cX10_init 192 = .ok (.newarray .int, 2) := by decide +kernel
theorem dX10_init_194 : decode cX10_init 194 = .ok (.putfield 71, 3) := by decide +kernel
theorem dX10_init_197 : decode cX10_init 197 = .ok (.aload_n 0, 1) := by decide +kernel
theorem dX10_init_198 : decode cX10_init 198 = .ok (.iconst 5, 1) := by decide +kernel
theorem dX10_init_199 : decode cX10_init 199 = .ok (.newarray .int, 2) := by decide +kernel
theorem dX10_init_201 : decode cX10_init 201 = .ok (.putfield 74, 3) := by decide +kernel
theorem dX10_init_204 : decode cX10_init 204 = .ok (.aload_n 0, 1) := by decide +kernel
theorem dX10_init_205 : decode cX10_init 205 = .ok (.bipush 10, 2) := by decide +kernel
theorem dX10_init_207 : decode cX10_init 207 = .ok (.newarray .int, 2) := by decide +kernel
theorem dX10_init_209 : decode cX10_init 209 = .ok (.putfield 77, 3) := by decide +kernel
theorem dX10_init_212 : decode cX10_init 212 = .ok (.aload_n 0, 1) := by decide +kernel
theorem dX10_init_213 : decode cX10_init 213 = .ok (.bipush 40, 2) := by decide +kernel
theorem dX10_init_215 : decode cX10_init 215 = .ok (.newarray .int, 2) := by decide +kernel
theorem dX10_init_217 : decode cX10_init 217 = .ok (.putfield 80, 3) := by decide +kernel
theorem dX10_init_220 : decode cX10_init 220 = .ok (.aload_n 0, 1) := by decide +kernel
theorem dX10_init_221 : decode cX10_init 221 = .ok (.iconst 4, 1) := by decide +kernel
theorem dX10_init_222 : decode cX10_init 222 = .ok (.newarray .int, 2) := by decide +kernel
theorem dX10_init_224 : decode cX10_init 224 = .ok (.dup, 1) := by decide +kernel
theorem dX10_init_225 : decode cX10_init 225 = .ok (.iconst 0, 1) := by decide +kernel
theorem dX10_init_226 : decode cX10_init 226 = .ok (.bipush 10, 2) := by decide +kernel
theorem dX10_init_228 : decode cX10_init 228 = .ok (.iastore, 1) := by decide +kernel
theorem dX10_init_229 : decode cX10_init 229 = .ok (.dup, 1) := by decide +kernel
theorem dX10_init_230 : decode cX10_init 230 = .ok (.iconst 1, 1) := by decide +kernel
theorem dX10_init_231 : decode cX10_init 231 = .ok (.bipush 10, 2) := by decide +kernel
theorem dX10_init_233 : decode cX10_init 233 = .ok (.iastore, 1) := by decide +kernel
theorem dX10_init_234 : decode cX10_init 234 = .ok (.dup, 1) := by decide +kernel
theorem dX10_init_235 : decode cX10_init 235 = .ok (.iconst 2, 1) := by decide +kernel
theorem dX10_init_236 : decode cX10_init 236 = .ok (.bipush 10, 2) := by decide +kernel
theorem dX10_init_238 : decode cX10_init 238 = .ok (.iastore, 1) := by decide +kernel
theorem dX10_init_239 : decode cX10_init 239 = .ok (.dup, 1) := by decide +kernel
theorem dX10_init_240 : decode cX10_init 240 = .ok (.iconst 3, 1) := by decide +kernel
theorem dX10_init_241 : decode cX10_init 241 = .ok (.bipush 10, 2) := by decide +kernel
theorem dX10_init_243 : decode cX10_init 243 = .ok (.iastore, 1) := by decide +kernel
theorem dX10_init_244 : decode cX10_init 244 = .ok (.putfield 83, 3) := by decide +kernel
theorem dX10_init_247 : decode cX10_init 247 = .ok (.aload_n 0, 1) := by decide +kernel
theorem dX10_init_248 : decode cX10_init 248 = .ok (.iconst 2, 1) := by decide +kernel
theorem dX10_init_249 : decode cX10_init 249 = .ok (.putfield 86, 3) := by decide +kernel
theorem dX10_init_252 : decode cX10_init 252 = .ok (.aload_n 0, 1) := by decide +kernel
theorem dX10_init_253 : decode cX10_init 253 = .ok (.bipush 6, 2) := by decide +kernel
theorem dX10_init_255 : decode cX10_init 255 = .ok (.newarray .int, 2) := by decide +kernel
theorem dX10_init_257 : decode cX10_init 257 = .ok (.putfield 90, 3) := by decide +kernel
theorem dX10_init_260 : decode cX10_init 260 = .ok (.aload_n 0, 1) := by decide +kernel
theorem dX10_init_261 : decode cX10_init 261 = .ok (.bipush 36, 2) := by decide +kernel
theorem dX10_init_263 : decode cX10_init 263 = .ok (.newarray .int, 2) := by decide +kernel
theorem dX10_init_265 : decode cX10_init 265 = .ok (.putfield 93, 3) := by decide +kernel
theorem dX10_init_268 : decode cX10_init 268 = .ok (.aload_n 0, 1) := by decide +kernel
theorem dX10_init_269 : decode cX10_init 269 = .ok (.bipush 7, 2) := by decide +kernel
theorem dX10_init_271 : decode cX10_init 271 = .ok (.newarray .int, 2) := by decide +kernel
theorem dX10_init_273 : decode cX10_init 273 = .ok (.putfield 96, 3) := by decide +kernel
theorem dX10_init_276 : decode cX10_init 276 = .ok (.aload_n 0, 1) := by decide +kernel
theorem dX10_init_277 : decode cX10_init 277 = .ok (.bipush 6, 2) := by decide +kernel
theorem dX10_init_279 : decode cX10_init 279 = .ok (.newarray .int, 2) := by decide +kernel
theorem dX10_init_281 : decode cX10_init 281 = .ok (.putfield 99, 3) := by decide +kernel
theorem dX10_init_284 : decode cX10_init 284 = .ok (.aload_n 0, 1) := by decide +kernel
theorem dX10_init_285 : decode cX10_init 285 = .ok (.bipush 6, 2) := by decide +kernel
theorem dX10_init_287 : decode cX10_init 287 = .ok (.newarray .int, 2) := by decide +kernel
theorem dX10_init_289 : decode cX10_init 289 = .ok (.putfield 102, 3) := by decide +kernel
theorem dX10_init_292 : decode cX10_init 292 = .ok (.aload_n 0, 1) := by decide +kernel
theorem dX10_init_293 : decode cX10_init 293 = .ok (.bipush 7, 2) := by decide +kernel
theorem dX10_init_295 : decode cX10_init 295 = .ok (.newarray .int, 2) := by decide +kernel
theorem dX10_init_297 : decode cX10_init 297 = .ok (.putfield 105, 3) := by decide +kernel
theorem dX10_init_300 : decode cX10_init 300 = .ok (.aload_n 0, 1) := by decide +kernel
theorem dX10_init_301 : decode cX10_init 301 = .ok (.bipush 15, 2) := by decide +kernel
theorem dX10_init_303 : decode cX10_init 303 = .ok (.newarray .int, 2) := by decide +kernel
theorem dX10_init_305 : decode cX10_init 305 = .ok (.putfield 108, 3) := by decide +kernel
theorem dX10_init_308 : decode cX10_init 308 = .ok (.aload_n 0, 1) := by decide +kernel
theorem dX10_init_309 : decode cX10_init 309 = .ok (.bipush 25, 2) := by decide +kernel
theorem dX10_init_311 : decode cX10_init 311 = .ok (.newarray .long, 2) := by decide +kernel
theorem dX10_init_313 : decode cX10_init 313 = .ok (.putfield 111, 3) := by decide +kernel
theorem dX10_init_316 : decode cX10_init 316 = .ok (.aload_n 0, 1) := by decide +kernel
theorem dX10_init_317 : decode cX10_init 317 = .ok (.iconst 5, 1) := by decide +kernel
theorem dX10_init_318 : decode cX10_init 318 = .ok (.newarray .long, 2) := by decide +kernel
theorem dX10_init_320 : decode cX10_init 320 = .ok (.putfield 115, 3) := by decide +kernel
theorem dX10_init_323 : decode cX10_init 323 = .ok (.aload_n 0, 1) := by decide +kernel
theorem dX10_init_324 : decode cX10_init 324 = .ok (.iconst 5, 1) := by decide +kernel
theorem dX10_init_325 : decode cX10_init 325 = .ok (.newarray .int, 2) := by decide +kernel
theorem dX10_init_327 : decode cX10_init 327 = .ok (.putfield 118, 3) := by decide +kernel
theorem dX10_init_330 : decode cX10_init 330 = .ok (.aload_n 0, 1) := by decide +kernel
theorem dX10_init_331 : decode cX10_init 331 = .ok (.iconst 4, 1) := by decide +kernel
theorem dX10_init_332 : decode cX10_init 332 = .ok (.newarray .int, 2) := by decide +kernel
theorem dX10_init_334 : decode cX10_init 334 = .ok (.putfield 121, 3) := by decide +kernel
theorem dX10_init_337 : decode cX10_init 337 = .ok (.aload_n 0, 1) := by decide +kernel
theorem dX10_init_338 : decode cX10_init 338 = .ok (.iconst 4, 1) := by decide +kernel
theorem dX10_init_339 : decode cX10_init 339 = .ok (.newarray .int, 2) := by decide +kernel
theorem dX10_init_341 : decode cX10_init 341 = .ok (.putfield 124, 3) := by decide +kernel
theorem dX10_init_344 : decode cX10_init 344 = .ok (.aload_n 0, 1) := by decide +kernel
theorem dX10_init_345 : decode cX10_init 345 = .ok (.iconst 5, 1) := by decide +kernel
theorem dX10_init_346 : decode cX10_init 346 = .ok (.newarray .int, 2) := by decide +kernel
theorem dX10_init_348 : decode cX10_init 348 = .ok (.putfield 127, 3) := by decide +kernel
theorem dX10_init_351 : decode cX10_init 351 = .ok (.aload_n 0, 1) := by decide +kernel
theorem dX10_init_352 : decode cX10_init 352 = .ok (.bipush 20, 2) := by decide +kernel
theorem dX10_init_354 : decode cX10_init 354 = .ok (.newarray .int, 2) := by decide +kernel
theorem dX10_init_356 : decode cX10_init 356 = .ok (.putfield 130, 3) := by decide +kernel
theorem dX10_init_359 : decode cX10_init 359 = .ok (.aload_n 0, 1) := by decide +kernel
theorem dX10_init_360 : decode cX10_init 360 = .ok (.sipush 160, 3) := by decide +kernel
theorem dX10_init_363 : decode cX10_init 363 = .ok (.newarray .int, 2) := by decide +kernel
theorem dX10_init_365 : decode cX10_init 365 = .ok (.putfield 133, 3) := by decide +kernel
theorem dX10_init_368 : decode cX10_init 368 = .ok (.aload_n 0, 1) := by decide +kernel
theorem dX10_init_369 : decode cX10_init 369 = .ok (.sipush 160, 3) := by decide +kernel
theorem dX10_init_372 : decode cX10_init 372 = .ok (.newarray .int, 2) := by decide +kernel
theorem dX10_init_374 : decode cX10_init 374 = .ok (.putfield 136, 3) := by decide +kernel
theorem dX10_init_377 : decode cX10_init 377 = .ok (.aload_n 0, 1) := by decide +kernel
theorem dX10_init_378 : decode cX10_init 378 = .ok (.bipush 20, 2) := by decide +kernel
theorem dX10_init_380 : decode cX10_init 380 = .ok (.newarray .int, 2) := by decide +kernel
theorem dX10_init_382 : decode cX10_init 382 = .ok (.putfield 139, 3) := by decide +kernel
theorem dX10_init_385 : decode cX10_init 385 = .ok (.aload_n 0, 1) := by decide +kernel
theorem dX10_init_386 : decode cX10_init 386 = .ok (.bipush 20, 2) := by decide +kernel
theorem dX10_init_388 : decode cX10_init 388 = .ok (.newarray .int, 2) := by decide +kernel
theorem dX10_init_390 : decode cX10_init 390 = .ok (.putfield 142, 3) := by decide +kernel
theorem dX10_init_393 : decode cX10_init 393 = .ok (.aload_n 0, 1) := by decide +kernel
theorem dX10_init_394 : decode cX10_init 394 = .ok (.bipush 20, 2) := by decide +kernel
theorem dX10_init_396 : decode cX10_init 396 = .ok (.newarray .int, 2) := by decide +kernel
theorem dX10_init_398 : decode cX10_init 398 = .ok (.putfield 145, 3) := by decide +kernel
theorem dX10_init_401 : decode cX10_init 401 = .ok (.aload_n 0, 1) := by decide +kernel
theorem dX10_init_402 : decode cX10_init 402 = .ok (.bipush 20, 2) := by decide +kernel
theorem dX10_init_404 : decode cX10_init 404 = .ok (.newarray .int, 2) := by decide +kernel
theorem dX10_init_406 : decode cX10_init 406 = .ok (.putfield 148, 3) := by decide +kernel
theorem dX10_init_409 : decode cX10_init 409 = .ok (.aload_n 0, 1) := by decide +kernel
theorem dX10_init_410 : decode cX10_init 410 = .ok (.bipush 6, 2) := by decide +kernel
theorem dX10_init_412 : decode cX10_init 412 = .ok (.newarray .int, 2) := by decide +kernel
theorem dX10_init_414 : decode cX10_init 414 = .ok (.dup, 1) := by decide +kernel
theorem dX10_init_415 : decode cX10_init 415 = .ok (.iconst 0, 1) := by decide +kernel
theorem dX10_init_416 : decode cX10_init 416 = .ok (.bipush 12, 2) := by decide +kernel
theorem dX10_init_418 : decode cX10_init 418 = .ok (.iastore, 1) := by decide +kernel
theorem dX10_init_419 : decode cX10_init 419 = .ok (.dup, 1) := by decide +kernel
theorem dX10_init_420 : decode cX10_init 420 = .ok (.iconst 1, 1) := by decide +kernel
theorem dX10_init_421 : decode cX10_init 421 = .ok (.bipush 12, 2) := by decide +kernel
theorem dX10_init_423 : decode cX10_init 423 = .ok (.iastore, 1) := by decide +kernel
theorem dX10_init_424 : decode cX10_init 424 = .ok (.dup, 1) := by decide +kernel
theorem dX10_init_425 : decode cX10_init 425 = .ok (.iconst 2, 1) := by decide +kernel
theorem dX10_init_426 : decode cX10_init 426 = .ok (.bipush 12, 2) := by decide +kernel
theorem dX10_init_428 : decode cX10_init 428 = .ok (.iastore, 1) := by decide +kernel
theorem dX10_init_429 : decode cX10_init 429 = .ok (.dup, 1) := by decide +kernel
theorem dX10_init_430 : decode cX10_init 430 = .ok (.iconst 3, 1) := by decide +kernel
theorem dX10_init_431 : decode cX10_init 431 = .ok (.bipush 12, 2) := by decide +kernel
theorem dX10_init_433 : decode cX10_init 433 = .ok (.iastore, 1) := by decide +kernel
theorem dX10_init_434 : decode cX10_init 434 = .ok (.dup, 1) := by decide +kernel
theorem dX10_init_435 : decode cX10_init 435 = .ok (.iconst 4, 1) := by decide +kernel
theorem dX10_init_436 : decode cX10_init 436 = .ok (.bipush 12, 2) := by decide +kernel
theorem dX10_init_438 : decode cX10_init 438 = .ok (.iastore, 1) := by decide +kernel
theorem dX10_init_439 : decode cX10_init 439 = .ok (.dup, 1) := by decide +kernel
theorem dX10_init_440 : decode cX10_init 440 = .ok (.iconst 5, 1) := by decide +kernel
theorem dX10_init_441 : decode cX10_init 441 = .ok (.bipush 12, 2) := by decide +kernel
theorem dX10_init_443 : decode cX10_init 443 = .ok (.iastore, 1) := by decide +kernel
theorem dX10_init_444 : decode cX10_init 444 = .ok (.putfield 151, 3) := by decide +kernel
theorem dX10_init_447 : decode cX10_init 447 = .ok (.aload_n 0, 1) := by decide +kernel
theorem dX10_init_448 : decode cX10_init 448 = .ok (.bipush 72, 2) := by decide +kernel
theorem dX10_init_450 : decode cX10_init 450 = .ok (.newarray .int, 2) := by decide +kernel
theorem dX10_init_452 : decode cX10_init 452 = .ok (.putfield 154, 3) := by decide +kernel
theorem dX10_init_455 : decode cX10_init 455 = .ok (.aload_n 0, 1) := by decide +kernel
theorem dX10_init_456 : decode cX10_init 456 = .ok (.bipush 6, 2) := by decide +kernel
theorem dX10_init_458 : decode cX10_init 458 = .ok (.newarray .int, 2) := by decide +kernel
theorem dX10_init_460 : decode cX10_init 460 = .ok (.putfield 157, 3) := by decide +kernel
theorem dX10_init_463 : decode cX10_init 463 = .ok (.aload_n 0, 1) := by decide +kernel
theorem dX10_init_464 : decode cX10_init 464 = .ok (.bipush 6, 2) := by decide +kernel
theorem dX10_init_466 : decode cX10_init 466 = .ok (.newarray .int, 2) := by decide +kernel
theorem dX10_init_468 : decode cX10_init 468 = .ok (.putfield 160, 3) := by decide +kernel
theorem dX10_init_471 : decode cX10_init 471 = .ok (.return_, 1) := by decide +kernel
theorem dX10_in_0 : decode cX10_in 0 = .ok (.iload_n 0, 1) := by decide +kernel
theorem dX10_in_1 : decode cX10_in 1 = .ok (.iload_n 1, 1) := by decide +kernel
theorem dX10_in_2 : decode cX10_in 2 = .ok (.if_icmp .lt 12, 3) := by decide +kernel
theorem dX10_in_5 : decode cX10_in 5 = .ok (.iload_n 0, 1) := by decide +kernel
theorem dX10_in_6 : decode cX10_in 6 = .ok (.iload_n 2, 1) := by decide +kernel
theorem dX10_in_7 : decode cX10_in 7 = .ok (.if_icmp .gt 7, 3) := by decide +kernel
theorem dX10_in_10 : decode cX10_in 10 = .ok (.iconst 1, 1) := by decide +kernel
theorem dX10_in_11 : decode cX10_in 11 = .ok (.goto 4, 3) := by decide +kernel
theorem dX10_in_14 : decode cX10_in 14 = .ok (.iconst 0, 1) := by decide +kernel
theorem dX10_in_15 : decode cX10_in 15 = .ok (.ireturn, 1) := by decide +kernel
theorem dX10_refuse_0 : decode cX10_refuse 0 = .ok (.aload_n 0, 1) := by decide +kernel
theorem dX10_refuse_1 : decode cX10_refuse 1 = .ok (.getfield 71, 3) := by decide +kernel
theorem dX10_refuse_4 : decode cX10_refuse 4 = .ok (.iload_n 1, 1) := by decide +kernel
theorem dX10_refuse_5 : decode cX10_refuse 5 = .ok (.ineg, 1) := by decide +kernel
theorem dX10_refuse_6 : decode cX10_refuse 6 = .ok (.dup2, 1) := by decide +kernel
theorem dX10_refuse_7 : decode cX10_refuse 7 = .ok (.iaload, 1) := by decide +kernel
theorem dX10_refuse_8 : decode cX10_refuse 8 = .ok (.iconst 1, 1) := by decide +kernel
theorem dX10_refuse_9 : decode cX10_refuse 9 = .ok (.iadd, 1) := by decide +kernel
theorem dX10_refuse_10 : decode cX10_refuse 10 = .ok (.iastore, 1) := by decide +kernel
theorem dX10_refuse_11 : decode cX10_refuse 11 = .ok (.iload_n 1, 1) := by decide +kernel
theorem dX10_refuse_12 : decode cX10_refuse 12 = .ok (.ireturn, 1) := by decide +kernel
theorem dX10_refuseFar_0 : decode cX10_refuseFar 0 = .ok (.aload_n 0, 1) := by decide +kernel
theorem dX10_refuseFar_1 : decode cX10_refuseFar 1 = .ok (.getfield 71, 3) := by decide +kernel
theorem dX10_refuseFar_4 : decode cX10_refuseFar 4 = .ok (.iload_n 1, 1) := by decide +kernel
theorem dX10_refuseFar_5 : decode cX10_refuseFar 5 = .ok (.ineg, 1) := by decide +kernel
theorem dX10_refuseFar_6 : decode cX10_refuseFar 6 = .ok (.dup2, 1) := by decide +kernel
theorem dX10_refuseFar_7 : decode cX10_refuseFar 7 = .ok (.iaload, 1) := by decide +kernel
theorem dX10_refuseFar_8 : decode cX10_refuseFar 8 = .ok (.iconst 1, 1) := by decide +kernel
theorem dX10_refuseFar_9 : decode cX10_refuseFar 9 = .ok (.iadd, 1) := by decide +kernel
theorem dX10_refuseFar_10 : decode cX10_refuseFar 10 = .ok (.iastore, 1) := by decide +kernel
theorem dX10_refuseFar_11 : decode cX10_refuseFar 11 = .ok (.ldc2_w 163, 3) := by decide +kernel
theorem dX10_refuseFar_14 : decode cX10_refuseFar 14 = .ok (.iload_n 1, 1) := by decide +kernel
theorem dX10_refuseFar_15 : decode cX10_refuseFar 15 = .ok (.i2l, 1) := by decide +kernel
theorem dX10_refuseFar_16 : decode cX10_refuseFar 16 = .ok (.lsub, 1) := by decide +kernel
theorem dX10_refuseFar_17 : decode cX10_refuseFar 17 = .ok (.lreturn, 1) := by decide +kernel
theorem dX10_divisor_0 : decode cX10_divisor 0 = .ok (.lload_n 0, 1) := by decide +kernel
theorem dX10_divisor_1 : decode cX10_divisor 1 = .ok (.lconst 0, 1) := by decide +kernel
theorem dX10_divisor_2 : decode cX10_divisor 2 = .ok (.lcmp, 1) := by decide +kernel
theorem dX10_divisor_3 : decode cX10_divisor 3 = .ok (.ifCond .ge 8, 3) := by decide +kernel
theorem dX10_divisor_6 : decode cX10_divisor 6 = .ok (.lload_n 0, 1) := by decide +kernel
theorem dX10_divisor_7 : decode cX10_divisor 7 = .ok (.lneg, 1) := by decide +kernel
theorem dX10_divisor_8 : decode cX10_divisor 8 = .ok (.goto 4, 3) := by decide +kernel
theorem dX10_divisor_11 : decode cX10_divisor 11 = .ok (.lload_n 0, 1) := by decide +kernel
theorem dX10_divisor_12 : decode cX10_divisor 12 = .ok (.lstore 4, 2) := by decide +kernel
theorem dX10_divisor_14 : decode cX10_divisor 14 = .ok (.lload_n 2, 1) := by decide +kernel
theorem dX10_divisor_15 : decode cX10_divisor 15 = .ok (.lconst 0, 1) := by decide +kernel
theorem dX10_divisor_16 : decode cX10_divisor 16 = .ok (.lcmp, 1) := by decide +kernel
theorem dX10_divisor_17 : decode cX10_divisor 17 = .ok (.ifCond .ge 8, 3) := by decide +kernel
theorem dX10_divisor_20 : decode cX10_divisor 20 = .ok (.lload_n 2, 1) := by decide +kernel
theorem dX10_divisor_21 : decode cX10_divisor 21 = .ok (.lneg, 1) := by decide +kernel
theorem dX10_divisor_22 : decode cX10_divisor 22 = .ok (.goto 4, 3) := by decide +kernel
theorem dX10_divisor_25 : decode cX10_divisor 25 = .ok (.lload_n 2, 1) := by decide +kernel
theorem dX10_divisor_26 : decode cX10_divisor 26 = .ok (.lstore 6, 2) := by decide +kernel
theorem dX10_divisor_28 : decode cX10_divisor 28 = .ok (.lload 6, 2) := by decide +kernel
theorem dX10_divisor_30 : decode cX10_divisor 30 = .ok (.lconst 0, 1) := by decide +kernel
theorem dX10_divisor_31 : decode cX10_divisor 31 = .ok (.lcmp, 1) := by decide +kernel
theorem dX10_divisor_32 : decode cX10_divisor 32 = .ok (.ifCond .eq 21, 3) := by decide +kernel
theorem dX10_divisor_35 : decode cX10_divisor 35 = .ok (.lload 4, 2) := by decide +kernel
theorem dX10_divisor_37 : decode cX10_divisor 37 = .ok (.lload 6, 2) := by decide +kernel
theorem dX10_divisor_39 : decode cX10_divisor 39 = .ok (.lrem, 1) := by decide +kernel
theorem dX10_divisor_40 : decode cX10_divisor 40 = .ok (.lstore 8, 2) := by decide +kernel
theorem dX10_divisor_42 : decode cX10_divisor 42 = .ok (.lload 6, 2) := by decide +kernel
theorem dX10_divisor_44 : decode cX10_divisor 44 = .ok (.lstore 4, 2) := by decide +kernel
theorem dX10_divisor_46 : decode cX10_divisor 46 = .ok (.lload 8, 2) := by decide +kernel
theorem dX10_divisor_48 : decode cX10_divisor 48 = .ok (.lstore 6, 2) := by decide +kernel
theorem dX10_divisor_50 : decode cX10_divisor 50 = .ok (.goto (-22), 3) := by decide +kernel
theorem dX10_divisor_53 : decode cX10_divisor 53 = .ok (.lload 4, 2) := by decide +kernel
theorem dX10_divisor_55 : decode cX10_divisor 55 = .ok (.lreturn, 1) := by decide +kernel
theorem dX10_wrongDay_0 : decode cX10_wrongDay 0 = .ok (.iload_n 0, 1) := by decide +kernel
theorem dX10_wrongDay_1 : decode cX10_wrongDay 1 = .ok (.ifCond .ge 8, 3) := by decide +kernel
theorem dX10_wrongDay_4 : decode cX10_wrongDay 4 = .ok (.bipush (-4), 2) := by decide +kernel
theorem dX10_wrongDay_6 : decode cX10_wrongDay 6 = .ok (.goto 16, 3) := by decide +kernel
theorem dX10_wrongDay_9 : decode cX10_wrongDay 9 = .ok (.iload_n 0, 1) := by decide +kernel
theorem dX10_wrongDay_10 : decode cX10_wrongDay 10 = .ok (.sipush 1500, 3) := by decide +kernel
theorem dX10_wrongDay_13 : decode cX10_wrongDay 13 = .ok (.if_icmp .le 8, 3) := by decide +kernel
theorem dX10_wrongDay_16 : decode cX10_wrongDay 16 = .ok (.bipush (-6), 2) := by decide +kernel
theorem dX10_wrongDay_18 : decode cX10_wrongDay 18 = .ok (.goto 4, 3) := by decide +kernel
theorem dX10_wrongDay_21 : decode cX10_wrongDay 21 = .ok (.iconst 0, 1) := by decide +kernel
theorem dX10_wrongDay_22 : decode cX10_wrongDay 22 = .ok (.ireturn, 1) := by decide +kernel
theorem dX10_isKitchen_0 : decode cX10_isKitchen 0 = .ok (.iload_n 1, 1) := by decide +kernel
theorem dX10_isKitchen_1 : decode cX10_isKitchen 1 = .ok (.iconst 0, 1) := by decide +kernel
theorem dX10_isKitchen_2 : decode cX10_isKitchen 2 = .ok (.aload_n 0, 1) := by decide +kernel
theorem dX10_isKitchen_3 : decode cX10_isKitchen 3 = .ok (.getfield 165, 3) := by decide +kernel
theorem dX10_isKitchen_6 : decode cX10_isKitchen 6 = .ok (.iconst 1, 1) := by decide +kernel
theorem dX10_isKitchen_7 : decode cX10_isKitchen 7 = .ok (.isub, 1) := by decide +kernel
theorem dX10_isKitchen_8 : decode cX10_isKitchen 8 = .ok (.invokestatic 168, 3) := by decide +kernel
theorem dX10_isKitchen_11 : decode cX10_isKitchen 11 = .ok (.ireturn, 1) := by decide +kernel
theorem dX10_isLook_0 : decode cX10_isLook 0 = .ok (.iload_n 1, 1) := by decide +kernel
theorem dX10_isLook_1 : decode cX10_isLook 1 = .ok (.iconst 0, 1) := by decide +kernel
theorem dX10_isLook_2 : decode cX10_isLook 2 = .ok (.aload_n 0, 1) := by decide +kernel
theorem dX10_isLook_3 : decode cX10_isLook 3 = .ok (.getfield 172, 3) := by decide +kernel
theorem dX10_isLook_6 : decode cX10_isLook 6 = .ok (.iconst 1, 1) := by decide +kernel
theorem dX10_isLook_7 : decode cX10_isLook 7 = .ok (.isub, 1) := by decide +kernel
theorem dX10_isLook_8 : decode cX10_isLook 8 = .ok (.invokestatic 168, 3) := by decide +kernel
theorem dX10_isLook_11 : decode cX10_isLook 11 = .ok (.ireturn, 1) := by decide +kernel
