theorem dX6_inForceOn_0 : decode cX6_inForceOn 0 = .ok (.iconst (-1), 1) := by decide +kernel
theorem dX6_inForceOn_1 : decode cX6_inForceOn 1 = .ok (.istore_n 2, 1) := by decide +kernel
theorem dX6_inForceOn_2 : decode cX6_inForceOn 2 = .ok (.iconst 0, 1) := by decide +kernel
theorem dX6_inForceOn_3 : decode cX6_inForceOn 3 = .ok (.istore_n 3, 1) := by decide +kernel
theorem dX6_inForceOn_4 : decode cX6_inForceOn 4 = .ok (.iconst 0, 1) := by decide +kernel
theorem dX6_inForceOn_5 : decode cX6_inForceOn 5 = .ok (.istore 4, 2) := by decide +kernel
theorem dX6_inForceOn_7 : decode cX6_inForceOn 7 = .ok (.iload 4, 2) := by decide +kernel
theorem dX6_inForceOn_9 : decode cX6_inForceOn 9 = .ok (.aload_n 0, 1) := by decide +kernel
theorem dX6_inForceOn_10 : decode cX6_inForceOn 10 = .ok (.getfield 18, 3) := by decide +kernel
theorem dX6_inForceOn_13 : decode cX6_inForceOn 13 = .ok (.if_icmp .ge 42, 3) := by decide +kernel
theorem dX6_inForceOn_16 : decode cX6_inForceOn 16 = .ok (.aload_n 0, 1) := by decide +kernel
theorem dX6_inForceOn_17 : decode cX6_inForceOn 17 = .ok (.getfield 9, 3) := by decide +kernel
theorem dX6_inForceOn_20 : decode cX6_inForceOn 20 = .ok (.iload 4, 2) := by decide +kernel
theorem dX6_inForceOn_22 : decode cX6_inForceOn 22 = .ok (.iaload, 1) := by decide +kernel
theorem dX6_inForceOn_23 : decode cX6_inForceOn 23 = .ok (.iload_n 1, 1) := by decide +kernel
theorem dX6_inForceOn_24 : decode cX6_inForceOn 24 = .ok (.if_icmp .gt 25, 3) := by decide +kernel
theorem dX6_inForceOn_27 : decode cX6_inForceOn 27 = .ok (.aload_n 0, 1) := by decide +kernel
theorem dX6_inForceOn_28 : decode cX6_inForceOn 28 = .ok (.getfield 9, 3) := by decide +kernel
theorem dX6_inForceOn_31 : decode cX6_inForceOn 31 = .ok (.iload 4, 2) := by decide +kernel
theorem dX6_inForceOn_33 : decode cX6_inForceOn 33 = .ok (.iaload, 1) := by decide +kernel
theorem dX6_inForceOn_34 : decode cX6_inForceOn 34 = .ok (.iload_n 3, 1) := by decide +kernel
theorem dX6_inForceOn_35 : decode cX6_inForceOn 35 = .ok (.if_icmp .lt 14, 3) := by decide +kernel
theorem dX6_inForceOn_38 : decode cX6_inForceOn 38 = .ok (.iload 4, 2) := by decide +kernel
theorem dX6_inForceOn_40 : decode cX6_inForceOn 40 = .ok (.istore_n 2, 1) := by decide +kernel
theorem dX6_inForceOn_41 : decode cX6_inForceOn 41 = .ok (.aload_n 0, 1) := by decide +kernel
theorem dX6_inForceOn_42 : decode cX6_inForceOn 42 = .ok (.getfield 9, 3) := by decide +kernel
theorem dX6_inForceOn_45 : decode cX6_inForceOn 45 = .ok (.iload 4, 2) := by decide +kernel
theorem dX6_inForceOn_47 : decode cX6_inForceOn 47 = .ok (.iaload, 1) := by decide +kernel
theorem dX6_inForceOn_48 : decode cX6_inForceOn 48 = .ok (.istore_n 3, 1) := by decide +kernel
theorem dX6_inForceOn_49 : decode cX6_inForceOn 49 = .ok (.iinc 4 1, 3) := by decide +kernel
theorem dX6_inForceOn_52 : decode cX6_inForceOn 52 = .ok (.goto (-45), 3) := by decide +kernel
theorem dX6_inForceOn_55 : decode cX6_inForceOn 55 = .ok (.iload_n 2, 1) := by decide +kernel
theorem dX6_inForceOn_56 : decode cX6_inForceOn 56 = .ok (.ireturn, 1) := by decide +kernel
theorem dX7_init_0 : decode cX7_init 0 = .ok (.aload_n 0, 1) := by decide +kernel
theorem dX7_init_1 : decode cX7_init 1 = .ok (.invokespecial 3, 3) := by decide +kernel
theorem dX7_init_4 : decode cX7_init 4 = .ok (.aload_n 0, 1) := by decide +kernel
theorem dX7_init_5 : decode cX7_init 5 = .ok (.bipush 6, 2) := by decide +kernel
theorem dX7_init_7 : decode cX7_init 7 = .ok (.newarray .int, 2) := by decide +kernel
theorem dX7_init_9 : decode cX7_init 9 = .ok (.putfield 9, 3) := by decide +kernel
theorem dX7_init_12 : decode cX7_init 12 = .ok (.aload_n 0, 1) := by decide +kernel
theorem dX7_init_13 : decode cX7_init 13 = .ok (.bipush 72, 2) := by decide +kernel
theorem dX7_init_15 : decode cX7_init 15 = .ok (.newarray .int, 2) := by decide +kernel
theorem dX7_init_17 : decode cX7_init 17 = .ok (.putfield 15, 3) := by decide +kernel
theorem dX7_init_20 : decode cX7_init 20 = .ok (.aload_n 0, 1) := by decide +kernel
theorem dX7_init_21 : decode cX7_init 21 = .ok (.bipush 72, 2) := by decide +kernel
theorem dX7_init_23 : decode cX7_init 23 = .ok (.newarray .long, 2) := by decide +kernel
theorem dX7_init_25 : decode cX7_init 25 = .ok (.putfield 18, 3) := by decide +kernel
theorem dX7_init_28 : decode cX7_init 28 = .ok (.aload_n 0, 1) := by decide +kernel
theorem dX7_init_29 : decode cX7_init 29 = .ok (.bipush 6, 2) := by decide +kernel
theorem dX7_init_31 : decode cX7_init 31 = .ok (.newarray .int, 2) := by decide +kernel
theorem dX7_init_33 : decode cX7_init 33 = .ok (.putfield 22, 3) := by decide +kernel
theorem dX7_init_36 : decode cX7_init 36 = .ok (.aload_n 0, 1) := by decide +kernel
theorem dX7_init_37 : decode cX7_init 37 = .ok (.bipush 6, 2) := by decide +kernel
theorem dX7_init_39 : decode cX7_init 39 = .ok (.newarray .int, 2) := by decide +kernel
theorem dX7_init_41 : decode cX7_init 41 = .ok (.putfield 25, 3) := by decide +kernel
theorem dX7_init_44 : decode cX7_init 44 = .ok (.aload_n 0, 1) := by decide +kernel
theorem dX7_init_45 : decode cX7_init 45 = .ok (.new 28, 3) := by decide +kernel
theorem dX7_init_48 : decode cX7_init 48 = .ok (.dup, 1) := by decide +kernel
theorem dX7_init_49 : decode cX7_init 49 = .ok (.invokespecial 30, 3) := by decide +kernel
theorem dX7_init_52 : decode cX7_init 52 = .ok (.putfield 31, 3) := by decide +kernel
theorem dX7_init_55 : decode cX7_init 55 = .ok (.aload_n 0, 1) := by decide +kernel
theorem dX7_init_56 : decode cX7_init 56 = .ok (.getfield 9, 3) := by decide +kernel
theorem dX7_init_59 : decode cX7_init 59 = .ok (.bipush 12, 2) := by decide +kernel
theorem dX7_init_61 : decode cX7_init 61 = .ok (.invokestatic 35, 3) := by decide +kernel
theorem dX7_init_64 : decode cX7_init 64 = .ok (.return_, 1) := by decide +kernel
theorem dX7_changeBegan_0 : decode cX7_changeBegan 0 = .ok (.aload_n 0, 1) := by decide +kernel
theorem dX7_changeBegan_1 : decode cX7_changeBegan 1 = .ok (.getfield 9, 3) := by decide +kernel
theorem dX7_changeBegan_4 : decode cX7_changeBegan 4 = .ok (.iload_n 1, 1) := by decide +kernel
theorem dX7_changeBegan_5 : decode cX7_changeBegan 5 = .ok (.iaload, 1) := by decide +kernel
theorem dX7_changeBegan_6 : decode cX7_changeBegan 6 = .ok (.istore_n 3, 1) := by decide +kernel
theorem dX7_changeBegan_7 : decode cX7_changeBegan 7 = .ok (.aload_n 0, 1) := by decide +kernel
theorem dX7_changeBegan_8 : decode cX7_changeBegan 8 = .ok (.getfield 9, 3) := by decide +kernel
theorem dX7_changeBegan_11 : decode cX7_changeBegan 11 = .ok (.iload_n 1, 1) := by decide +kernel
theorem dX7_changeBegan_12 : decode cX7_changeBegan 12 = .ok (.iload_n 2, 1) := by decide +kernel
theorem dX7_changeBegan_13 : decode cX7_changeBegan 13 = .ok (.iastore, 1) := by decide +kernel
theorem dX7_changeBegan_14 : decode cX7_changeBegan 14 = .ok (.iload_n 3, 1) := by decide +kernel
theorem dX7_changeBegan_15 : decode cX7_changeBegan 15 = .ok (.ireturn, 1) := by decide +kernel
theorem dX7_changeCases_0 : decode cX7_changeCases 0 = .ok (.iload_n 1, 1) := by decide +kernel
theorem dX7_changeCases_1 : decode cX7_changeCases 1 = .ok (.bipush 12, 2) := by decide +kernel
theorem dX7_changeCases_3 : decode cX7_changeCases 3 = .ok (.imul, 1) := by decide +kernel
theorem dX7_changeCases_4 : decode cX7_changeCases 4 = .ok (.iload_n 2, 1) := by decide +kernel
theorem dX7_changeCases_5 : decode cX7_changeCases 5 = .ok (.iadd, 1) := by decide +kernel
theorem dX7_changeCases_6 : decode cX7_changeCases 6 = .ok (.istore 4, 2) := by decide +kernel
theorem dX7_changeCases_8 : decode cX7_changeCases 8 = .ok (.aload_n 0, 1) := by decide +kernel
theorem dX7_changeCases_9 : decode cX7_changeCases 9 = .ok (.getfield 15, 3) := by decide +kernel
theorem dX7_changeCases_12 : decode cX7_changeCases 12 = .ok (.iload 4, 2) := by decide +kernel
theorem dX7_changeCases_14 : decode cX7_changeCases 14 = .ok (.iaload, 1) := by decide +kernel
theorem dX7_changeCases_15 : decode cX7_changeCases 15 = .ok (.istore 5, 2) := by decide +kernel
theorem dX7_changeCases_17 : decode cX7_changeCases 17 = .ok (.aload_n 0, 1) := by decide +kernel
theorem dX7_changeCases_18 : decode cX7_changeCases 18 = .ok (.getfield 15, 3) := by decide +kernel
theorem dX7_changeCases_21 : decode cX7_changeCases 21 = .ok (.iload 4, 2) := by decide +kernel
theorem dX7_changeCases_23 : decode cX7_changeCases 23 = .ok (.iload_n 3, 1) := by decide +kernel
theorem dX7_changeCases_24 : decode cX7_changeCases 24 = .ok (.iastore, 1) := by decide +kernel
theorem dX7_changeCases_25 : decode cX7_changeCases 25 = .ok (.iload 5, 2) := by decide +kernel
theorem dX7_changeCases_27 : decode cX7_changeCases 27 = .ok (.ireturn, 1) := by decide +kernel
theorem dX7_hasEffect_0 : decode cX7_hasEffect 0 = .ok (.aload_n 0, 1) := by decide +kernel
theorem dX7_hasEffect_1 : decode cX7_hasEffect 1 = .ok (.invokevirtual 41, 3) := by decide +kernel
theorem dX7_hasEffect_4 : decode cX7_hasEffect 4 = .ok (.ifCond .le 14, 3) := by decide +kernel
theorem dX7_hasEffect_7 : decode cX7_hasEffect 7 = .ok (.aload_n 0, 1) := by decide +kernel
theorem dX7_hasEffect_8 : decode cX7_hasEffect 8 = .ok (.invokevirtual 45, 3) := by decide +kernel
theorem dX7_hasEffect_11 : decode cX7_hasEffect 11 = .ok (.ifCond .le 7, 3) := by decide +kernel
theorem dX7_hasEffect_14 : decode cX7_hasEffect 14 = .ok (.iconst 1, 1) := by decide +kernel
theorem dX7_hasEffect_15 : decode cX7_hasEffect 15 = .ok (.goto 4, 3) := by decide +kernel
theorem dX7_hasEffect_18 : decode cX7_hasEffect 18 = .ok (.iconst 0, 1) := by decide +kernel
theorem dX7_hasEffect_19 : decode cX7_hasEffect 19 = .ok (.ireturn, 1) := by decide +kernel
theorem dX7_trueEffect_0 : decode cX7_trueEffect 0 = .ok (.aload_n 0, 1) := by decide +kernel
theorem dX7_trueEffect_1 : decode cX7_trueEffect 1 = .ok (.invokevirtual 48, 3) := by decide +kernel
theorem dX7_trueEffect_4 : decode cX7_trueEffect 4 = .ok (.aload_n 0, 1) := by decide +kernel
theorem dX7_trueEffect_5 : decode cX7_trueEffect 5 = .ok (.getfield 31, 3) := by decide +kernel
theorem dX7_trueEffect_8 : decode cX7_trueEffect 8 = .ok (.aload_n 0, 1) := by decide +kernel
theorem dX7_trueEffect_9 : decode cX7_trueEffect 9 = .ok (.aload_n 0, 1) := by decide +kernel
theorem dX7_trueEffect_10 : decode cX7_trueEffect 10 = .ok (.getfield 9, 3) := by decide +kernel
theorem dX7_trueEffect_13 : decode cX7_trueEffect 13 = .ok (.invokevirtual 51, 3) := by decide +kernel
theorem dX7_trueEffect_16 : decode cX7_trueEffect 16 = .ok (.ldc2_w 55, 3) := by decide +kernel
theorem dX7_trueEffect_19 : decode cX7_trueEffect 19 = .ok (.aload_n 0, 1) := by decide +kernel
theorem dX7_trueEffect_20 : decode cX7_trueEffect 20 = .ok (.invokevirtual 45, 3) := by decide +kernel
theorem dX7_trueEffect_23 : decode cX7_trueEffect 23 = .ok (.i2l, 1) := by decide +kernel
theorem dX7_trueEffect_24 : decode cX7_trueEffect 24 = .ok (.lmul, 1) := by decide +kernel
theorem dX7_trueEffect_25 : decode cX7_trueEffect 25 = .ok (.aload_n 0, 1) := by decide +kernel
theorem dX7_trueEffect_26 : decode cX7_trueEffect 26 = .ok (.invokevirtual 41, 3) := by decide +kernel
theorem dX7_trueEffect_29 : decode cX7_trueEffect 29 = .ok (.i2l, 1) := by decide +kernel
theorem dX7_trueEffect_30 : decode cX7_trueEffect 30 = .ok (.lmul, 1) := by decide +kernel
theorem dX7_trueEffect_31 : decode cX7_trueEffect 31 = .ok (.invokevirtual 57, 3) := by decide +kernel
theorem dX7_trueEffect_34 : decode cX7_trueEffect 34 = .ok (.aload_n 0, 1) := by decide +kernel
theorem dX7_trueEffect_35 : decode cX7_trueEffect 35 = .ok (.getfield 31, 3) := by decide +kernel
theorem dX7_trueEffect_38 : decode cX7_trueEffect 38 = .ok (.areturn, 1) := by decide +kernel
theorem dX7_waysNoGreater_0 : decode cX7_waysNoGreater 0 = .ok (.aload_n 0, 1) := by decide +kernel
theorem dX7_waysNoGreater_1 : decode cX7_waysNoGreater 1 = .ok (.invokevirtual 48, 3) := by decide +kernel
theorem dX7_waysNoGreater_4 : decode cX7_waysNoGreater 4 = .ok (.aload_n 0, 1) := by decide +kernel
theorem dX7_waysNoGreater_5 : decode cX7_waysNoGreater 5 = .ok (.aload_n 0, 1) := by decide +kernel
theorem dX7_waysNoGreater_6 : decode cX7_waysNoGreater 6 = .ok (.getfield 9, 3) := by decide +kernel
theorem dX7_waysNoGreater_9 : decode cX7_waysNoGreater 9 = .ok (.invokevirtual 51, 3) := by decide +kernel
theorem dX7_waysNoGreater_12 : decode cX7_waysNoGreater 12 = .ok (.lstore_n 1, 1) := by decide +kernel
theorem dX7_waysNoGreater_13 : decode cX7_waysNoGreater 13 = .ok (.iconst 0, 1) := by decide +kernel
theorem dX7_waysNoGreater_14 : decode cX7_waysNoGreater 14 = .ok (.istore_n 3, 1) := by decide +kernel
theorem dX7_waysNoGreater_15 : decode cX7_waysNoGreater 15 = .ok (.iconst 0, 1) := by decide +kernel
theorem dX7_waysNoGreater_16 : decode cX7_waysNoGreater 16 = .ok (.istore 4, 2) := by decide +kernel
theorem dX7_waysNoGreater_18 : decode cX7_waysNoGreater 18 = .ok (.iload 4, 2) := by decide +kernel
theorem dX7_waysNoGreater_20 : decode cX7_waysNoGreater 20 = .ok (.sipush 720, 3) := by decide +kernel
theorem dX7_waysNoGreater_23 : decode cX7_waysNoGreater 23 = .ok (.if_icmp .ge 31, 3) := by decide +kernel
theorem dX7_waysNoGreater_26 : decode cX7_waysNoGreater 26 = .ok (.aload_n 0, 1) := by decide +kernel
theorem dX7_waysNoGreater_27 : decode cX7_waysNoGreater 27 = .ok (.iload 4, 2) := by decide +kernel
theorem dX7_waysNoGreater_29 : decode cX7_waysNoGreater 29 = .ok (.invokevirtual 61, 3) := by decide +kernel
theorem dX7_waysNoGreater_32 : decode cX7_waysNoGreater 32 = .ok (.aload_n 0, 1) := by decide +kernel
theorem dX7_waysNoGreater_33 : decode cX7_waysNoGreater 33 = .ok (.aload_n 0, 1) := by decide +kernel
theorem dX7_waysNoGreater_34 : decode cX7_waysNoGreater 34 = .ok (.getfield 25, 3) := by decide +kernel
theorem dX7_waysNoGreater_37 : decode cX7_waysNoGreater 37 = .ok (.invokevirtual 51, 3) := by decide +kernel
theorem dX7_waysNoGreater_40 : decode cX7_waysNoGreater 40 = .ok (.lload_n 1, 1) := by decide +kernel
theorem dX7_waysNoGreater_41 : decode cX7_waysNoGreater 41 = .ok (.lcmp, 1) := by decide +kernel
theorem dX7_waysNoGreater_42 : decode cX7_waysNoGreater 42 = .ok (.ifCond .gt 6, 3) := by decide +kernel
theorem dX7_waysNoGreater_45 : decode cX7_waysNoGreater 45 = .ok (.iinc 3 1, 3) := by decide +kernel
theorem dX7_waysNoGreater_48 : decode cX7_waysNoGreater 48 = .ok (.iinc 4 1, 3) := by decide +kernel
theorem dX7_waysNoGreater_51 : decode cX7_waysNoGreater 51 = .ok (.goto (-33), 3) := by decide +kernel
theorem dX7_waysNoGreater_54 : decode cX7_waysNoGreater 54 = .ok (.iload_n 3, 1) := by decide +kernel
theorem dX7_waysNoGreater_55 : decode cX7_waysNoGreater 55 = .ok (.ireturn, 1) := by decide +kernel
theorem dX7_isStarted_0 : decode cX7_isStarted 0 = .ok (.iload_n 0, 1) := by decide +kernel
theorem dX7_isStarted_1 : decode cX7_isStarted 1 = .ok (.ifCond .le 13, 3) := by decide +kernel
theorem dX7_isStarted_4 : decode cX7_isStarted 4 = .ok (.iload_n 0, 1) := by decide +kernel
theorem dX7_isStarted_5 : decode cX7_isStarted 5 = .ok (.bipush 12, 2) := by decide +kernel
theorem dX7_isStarted_7 : decode cX7_isStarted 7 = .ok (.if_icmp .ge 7, 3) := by decide +kernel
theorem dX7_isStarted_10 : decode cX7_isStarted 10 = .ok (.iconst 1, 1) := by decide +kernel
theorem dX7_isStarted_11 : decode cX7_isStarted 11 = .ok (.goto 4, 3) := by decide +kernel
theorem dX7_isStarted_14 : decode cX7_isStarted 14 = .ok (.iconst 0, 1) := by decide +kernel
theorem dX7_isStarted_15 : decode cX7_isStarted 15 = .ok (.ireturn, 1) := by decide +kernel
theorem dX7_startedSize_0 : decode cX7_startedSize 0 = .ok (.iconst 0, 1) := by decide +kernel
theorem dX7_startedSize_1 : decode cX7_startedSize 1 = .ok (.istore_n 1, 1) := by decide +kernel
theorem dX7_startedSize_2 : decode cX7_startedSize 2 = .ok (.iconst 0, 1) := by decide +kernel
theorem dX7_startedSize_3 : decode cX7_startedSize 3 = .ok (.istore_n 2, 1) := by decide +kernel
theorem dX7_startedSize_4 : decode cX7_startedSize 4 = .ok (.iload_n 2, 1) := by decide +kernel
theorem dX7_startedSize_5 : decode cX7_startedSize 5 = .ok (.bipush 6, 2) := by decide +kernel
theorem dX7_startedSize_7 : decode cX7_startedSize 7 = .ok (.if_icmp .ge 24, 3) := by decide +kernel
theorem dX7_startedSize_10 : decode cX7_startedSize 10 = .ok (.aload_n 0, 1) := by decide +kernel
theorem dX7_startedSize_11 : decode cX7_startedSize 11 = .ok (.getfield 9, 3) := by decide +kernel
theorem dX7_startedSize_14 : decode cX7_startedSize 14 = .ok (.iload_n 2, 1) := by decide +kernel
theorem dX7_startedSize_15 : decode cX7_startedSize 15 = .ok (.iaload, 1) := by decide +kernel
theorem dX7_startedSize_16 : decode cX7_startedSize 16 = .ok (.invokestatic 65, 3) := by decide +kernel
theorem dX7_startedSize_19 : decode cX7_startedSize 19 = .ok (.ifCond .eq 6, 3) := by decide +kernel
theorem dX7_startedSize_22 : decode cX7_startedSize 22 = .ok (.iinc 1 1, 3) := by decide +kernel
theorem dX7_startedSize_25 : decode cX7_startedSize 25 = .ok (.iinc 2 1, 3) := by decide +kernel
theorem dX7_startedSize_28 : decode cX7_startedSize 28 = .ok (.goto (-24), 3) := by decide +kernel
theorem dX7_startedSize_31 : decode cX7_startedSize 31 = .ok (.iload_n 1, 1) := by decide +kernel
theorem dX7_startedSize_32 : decode cX7_startedSize 32 = .ok (.ireturn, 1) := by decide +kernel
theorem dX7_neverSize_0 : decode cX7_neverSize 0 = .ok (.iconst 0, 1) := by decide +kernel
theorem dX7_neverSize_1 : decode cX7_neverSize 1 = .ok (.istore_n 1, 1) := by decide +kernel
theorem dX7_neverSize_2 : decode cX7_neverSize 2 = .ok (.iconst 0, 1) := by decide +kernel
theorem dX7_neverSize_3 : decode cX7_neverSize 3 = .ok (.istore_n 2, 1) := by decide +kernel
theorem dX7_neverSize_4 : decode cX7_neverSize 4 = .ok (.iload_n 2, 1) := by decide +kernel
theorem dX7_neverSize_5 : decode cX7_neverSize 5 = .ok (.bipush 6, 2) := by decide +kernel
theorem dX7_neverSize_7 : decode cX7_neverSize 7 = .ok (.if_icmp .ge 23, 3) := by decide +kernel
theorem dX7_neverSize_10 : decode cX7_neverSize 10 = .ok (.aload_n 0, 1) := by decide +kernel
theorem dX7_neverSize_11 : decode cX7_neverSize 11 = .ok (.getfield 9, 3) := by decide +kernel
theorem dX7_neverSize_14 : decode cX7_neverSize 14 = .ok (.iload_n 2, 1) := by decide +kernel
theorem dX7_neverSize_15 : decode cX7_neverSize 15 = .ok (.iaload, 1) := by decide +kernel
theorem dX7_neverSize_16 : decode cX7_neverSize 16 = .ok (.bipush 12, 2) := by decide +kernel
theorem dX7_neverSize_18 : decode cX7_neverSize 18 = .ok (.if_icmp .ne 6, 3) := by decide +kernel
theorem dX7_neverSize_21 : decode cX7_neverSize 21 = .ok (.iinc 1 1, 3) := by decide +kernel
theorem dX7_neverSize_24 : decode cX7_neverSize 24 = .ok (.iinc 2 1, 3) := by decide +kernel
theorem dX7_neverSize_27 : decode cX7_neverSize 27 = .ok (.goto (-23), 3) := by decide +kernel
theorem dX7_neverSize_30 : decode cX7_neverSize 30 = .ok (.iload_n 1, 1) := by decide +kernel
theorem dX7_neverSize_31 : decode cX7_neverSize 31 = .ok (.ireturn, 1) := by decide +kernel
theorem dX7_fillRises_0 : decode cX7_fillRises 0 = .ok (.iconst 0, 1) := by decide +kernel
theorem dX7_fillRises_1 : decode cX7_fillRises 1 = .ok (.istore_n 1, 1) := by decide +kernel
theorem dX7_fillRises_2 : decode cX7_fillRises 2 = .ok (.iload_n 1, 1) := by decide +kernel
theorem dX7_fillRises_3 : decode cX7_fillRises 3 = .ok (.bipush 6, 2) := by decide +kernel
theorem dX7_fillRises_5 : decode cX7_fillRises 5 = .ok (.if_icmp .ge 126, 3) := by decide +kernel
theorem dX7_fillRises_8 : decode cX7_fillRises 8 = .ok (.lconst 0, 1) := by decide +kernel
theorem dX7_fillRises_9 : decode cX7_fillRises 9 = .ok (.lstore_n 2, 1) := by decide +kernel
theorem dX7_fillRises_10 : decode cX7_fillRises 10 = .ok (.iconst 0, 1) := by decide +kernel
theorem dX7_fillRises_11 : decode cX7_fillRises 11 = .ok (.istore 4, 2) := by decide +kernel
theorem dX7_fillRises_13 : decode cX7_fillRises 13 = .ok (.iload 4, 2) := by decide +kernel
theorem dX7_fillRises_15 : decode cX7_fillRises 15 = .ok (.bipush 12, 2) := by decide +kernel
theorem dX7_fillRises_17 : decode cX7_fillRises 17 = .ok (.if_icmp .ge 25, 3) := by decide +kernel
theorem dX7_fillRises_20 : decode cX7_fillRises 20 = .ok (.lload_n 2, 1) := by decide +kernel
theorem dX7_fillRises_21 : decode cX7_fillRises 21 = .ok (.aload_n 0, 1) := by decide +kernel
theorem dX7_fillRises_22 : decode cX7_fillRises 22 = .ok (.getfield 15, 3) := by decide +kernel
theorem dX7_fillRises_25 : decode cX7_fillRises 25 = .ok (.iload_n 1, 1) := by decide +kernel
theorem dX7_fillRises_26 : decode cX7_fillRises 26 = .ok (.bipush 12, 2) := by decide +kernel
theorem dX7_fillRises_28 : decode cX7_fillRises 28 = .ok (.imul, 1) := by decide +kernel
theorem dX7_fillRises_29 : decode cX7_fillRises 29 = .ok (.iload 4, 2) := by decide +kernel
theorem dX7_fillRises_31 : decode cX7_fillRises 31 = .ok (.iadd, 1) := by decide +kernel
theorem dX7_fillRises_32 : decode cX7_fillRises 32 = .ok (.iaload, 1) := by decide +kernel
theorem dX7_fillRises_33 : decode cX7_fillRises 33 = .ok (.i2l, 1) := by decide +kernel
theorem dX7_fillRises_34 : decode cX7_fillRises 34 = .ok (.ladd, 1) := by decide +kernel
theorem dX7_fillRises_35 : decode cX7_fillRises 35 = .ok (.lstore_n 2, 1) := by decide +kernel
theorem dX7_fillRises_36 : decode cX7_fillRises 36 = .ok (.iinc 4 1, 3) := by decide +kernel
theorem dX7_fillRises_39 : decode cX7_fillRises 39 = .ok (.goto (-26), 3) := by decide +kernel
theorem dX7_fillRises_42 : decode cX7_fillRises 42 = .ok (.aload_n 0, 1) := by decide +kernel
theorem dX7_fillRises_43 : decode cX7_fillRises 43 = .ok (.getfield 15, 3) := by decide +kernel
theorem dX7_fillRises_46 : decode cX7_fillRises 46 = .ok (.iload_n 1, 1) := by decide +kernel
theorem dX7_fillRises_47 : decode cX7_fillRises 47 = .ok (.bipush 12, 2) := by decide +kernel
theorem dX7_fillRises_49 : decode cX7_fillRises 49 = .ok (.imul, 1) := by decide +kernel
theorem dX7_fillRises_50 : decode cX7_fillRises 50 = .ok (.iaload, 1) := by decide +kernel
theorem dX7_fillRises_51 : decode cX7_fillRises 51 = .ok (.i2l, 1) := by decide +kernel
theorem dX7_fillRises_52 : decode cX7_fillRises 52 = .ok (.lstore 4, 2) := by decide +kernel
theorem dX7_fillRises_54 : decode cX7_fillRises 54 = .ok (.iconst 1, 1) := by decide +kernel
theorem dX7_fillRises_55 : decode cX7_fillRises 55 = .ok (.istore 6, 2) := by decide +kernel
theorem dX7_fillRises_57 : decode cX7_fillRises 57 = .ok (.iload 6, 2) := by decide +kernel
theorem dX7_fillRises_59 : decode cX7_fillRises 59 = .ok (.bipush 12, 2) := by decide +kernel
theorem dX7_fillRises_61 : decode cX7_fillRises 61 = .ok (.if_icmp .ge 64, 3) := by decide +kernel
theorem dX7_fillRises_64 : decode cX7_fillRises 64 = .ok (.iload_n 1, 1) := by decide +kernel
theorem dX7_fillRises_65 : decode cX7_fillRises 65 = .ok (.bipush 12, 2) := by decide +kernel
theorem dX7_fillRises_67 : decode cX7_fillRises 67 = .ok (.imul, 1) := by decide +kernel
theorem dX7_fillRises_68 : decode cX7_fillRises 68 = .ok (.iload 6, 2) := by decide +kernel
theorem dX7_fillRises_70 : decode cX7_fillRises 70 = .ok (.iadd, 1) := by decide +kernel
theorem dX7_fillRises_71 : decode cX7_fillRises 71 = .ok (.istore 7, 2) := by decide +kernel
theorem dX7_fillRises_73 : decode cX7_fillRises 73 = .ok (.aload_n 0, 1) := by decide +kernel
theorem dX7_fillRises_74 : decode cX7_fillRises 74 = .ok (.getfield 18, 3) := by decide +kernel
theorem dX7_fillRises_77 : decode cX7_fillRises 77 = .ok (.iload 7, 2) := by decide +kernel
theorem dX7_fillRises_79 : decode cX7_fillRises 79 = .ok (.lload_n 2, 1) := by decide +kernel
theorem dX7_fillRises_80 : decode cX7_fillRises 80 = .ok (.lload 4, 2) := by decide +kernel
theorem dX7_fillRises_82 : decode cX7_fillRises 82 = .ok (.lsub, 1) := by decide +kernel
theorem dX7_fillRises_83 : decode cX7_fillRises 83 = .ok (.ldc2_w 55, 3) := by decide +kernel
theorem dX7_fillRises_86 : decode cX7_fillRises 86 = .ok (.bipush 12, 2) := by decide +kernel
theorem dX7_fillRises_88 : decode cX7_fillRises 88 = .ok (.iload 6, 2) := by decide +kernel
theorem dX7_fillRises_90 : decode cX7_fillRises 90 = .ok (.isub, 1) := by decide +kernel
theorem dX7_fillRises_91 : decode cX7_fillRises 91 = .ok (.i2l, 1) := by decide +kernel
theorem dX7_fillRises_92 : decode cX7_fillRises 92 = .ok (.ldiv, 1) := by decide +kernel
theorem dX7_fillRises_93 : decode cX7_fillRises 93 = .ok (.lmul, 1) := by decide +kernel
theorem dX7_fillRises_94 : decode cX7_fillRises 94 = .ok (.lload 4, 2) := by decide +kernel
theorem dX7_fillRises_96 : decode cX7_fillRises 96 = .ok (.ldc2_w 55, 3) := by decide +kernel
theorem dX7_fillRises_99 : decode cX7_fillRises 99 = .ok (.iload 6, 2) := by decide +kernel
theorem dX7_fillRises_101 : decode cX7_fillRises 101 = .ok (.i2l, 1) := by decide +kernel
theorem dX7_fillRises_102 : decode cX7_fillRises 102 = .ok (.ldiv, 1) := by decide +kernel
theorem dX7_fillRises_103 : decode cX7_fillRises 103 = .ok (.lmul, 1) := by decide +kernel
theorem dX7_fillRises_104 : decode cX7_fillRises 104 = .ok (.lsub, 1) := by decide +kernel
theorem dX7_fillRises_105 : decode cX7_fillRises 105 = .ok (.lastore, 1) := by decide +kernel
theorem dX7_fillRises_106 : decode cX7_fillRises 106 = .ok (.lload 4, 2) := by decide +kernel
theorem dX7_fillRises_108 : decode cX7_fillRises 108 = .ok (.aload_n 0, 1) := by decide +kernel
theorem dX7_fillRises_109 : decode cX7_fillRises 109 = .ok (.getfield 15, 3) := by decide +kernel
theorem dX7_fillRises_112 : decode cX7_fillRises 112 = .ok (.iload 7, 2) := by decide +kernel
theorem dX7_fillRises_114 : decode cX7_fillRises 114 = .ok (.iaload, 1) := by decide +kernel
theorem dX7_fillRises_115 : decode cX7_fillRises 115 = .ok (.i2l, 1) := by decide +kernel
theorem dX7_fillRises_116 : decode cX7_fillRises 116 = .ok (.ladd, 1) := by decide +kernel
theorem dX7_fillRises_117 : decode cX7_fillRises 117 = .ok (.lstore 4, 2) := by decide +kernel
theorem dX7_fillRises_119 : decode cX7_fillRises 119 = .ok (.iinc 6 1, 3) := by decide +kernel
theorem dX7_fillRises_122 : decode cX7_fillRises 122 = .ok (.goto (-65), 3) := by decide +kernel
theorem dX7_fillRises_125 : decode cX7_fillRises 125 = .ok (.iinc 1 1, 3) := by decide +kernel
theorem dX7_fillRises_128 : decode cX7_fillRises 128 = .ok (.goto (-126), 3) := by decide +kernel
theorem dX7_fillRises_131 : decode cX7_fillRises 131 = .ok (.return_, 1) := by decide +kernel
theorem dX7_effectBy_0 : decode cX7_effectBy 0 = .ok (.aload_n 0, 1) := by decide +kernel
theorem dX7_effectBy_1 : decode cX7_effectBy 1 = .ok (.invokevirtual 45, 3) := by decide +kernel
theorem dX7_effectBy_4 : decode cX7_effectBy 4 = .ok (.istore_n 2, 1) := by decide +kernel
theorem dX7_effectBy_5 : decode cX7_effectBy 5 = .ok (.lconst 0, 1) := by decide +kernel
theorem dX7_effectBy_6 : decode cX7_effectBy 6 = .ok (.lstore_n 3, 1) := by decide +kernel
theorem dX7_effectBy_7 : decode cX7_effectBy 7 = .ok (.iconst 0, 1) := by decide +kernel
theorem dX7_effectBy_8 : decode cX7_effectBy 8 = .ok (.istore 5, 2) := by decide +kernel
theorem dX7_effectBy_10 : decode cX7_effectBy 10 = .ok (.iload 5, 2) := by decide +kernel
theorem dX7_effectBy_12 : decode cX7_effectBy 12 = .ok (.bipush 6, 2) := by decide +kernel
theorem dX7_effectBy_14 : decode cX7_effectBy 14 = .ok (.if_icmp .ge 50, 3) := by decide +kernel
theorem dX7_effectBy_17 : decode cX7_effectBy 17 = .ok (.aload_n 1, 1) := by decide +kernel
theorem dX7_effectBy_18 : decode cX7_effectBy 18 = .ok (.iload 5, 2) := by decide +kernel
theorem dX7_effectBy_20 : decode cX7_effectBy 20 = .ok (.iaload, 1) := by decide +kernel
theorem dX7_effectBy_21 : decode cX7_effectBy 21 = .ok (.istore 6, 2) := by decide +kernel
theorem dX7_effectBy_23 : decode cX7_effectBy 23 = .ok (.iload 6, 2) := by decide +kernel
theorem dX7_effectBy_25 : decode cX7_effectBy 25 = .ok (.invokestatic 65, 3) := by decide +kernel
theorem dX7_effectBy_28 : decode cX7_effectBy 28 = .ok (.ifCond .eq 30, 3) := by decide +kernel
theorem dX7_effectBy_31 : decode cX7_effectBy 31 = .ok (.lload_n 3, 1) := by decide +kernel
theorem dX7_effectBy_32 : decode cX7_effectBy 32 = .ok (.iload_n 2, 1) := by decide +kernel
theorem dX7_effectBy_33 : decode cX7_effectBy 33 = .ok (.i2l, 1) := by decide +kernel
theorem dX7_effectBy_34 : decode cX7_effectBy 34 = .ok (.aload_n 0, 1) := by decide +kernel
theorem dX7_effectBy_35 : decode cX7_effectBy 35 = .ok (.getfield 18, 3) := by decide +kernel
theorem dX7_effectBy_38 : decode cX7_effectBy 38 = .ok (.iload 5, 2) := by decide +kernel
theorem dX7_effectBy_40 : decode cX7_effectBy 40 = .ok (.bipush 12, 2) := by decide +kernel
theorem dX7_effectBy_42 : decode cX7_effectBy 42 = .ok (.imul, 1) := by decide +kernel
theorem dX7_effectBy_43 : decode cX7_effectBy 43 = .ok (.iload 6, 2) := by decide +kernel
theorem dX7_effectBy_45 : decode cX7_effectBy 45 = .ok (.iadd, 1) := by decide +kernel
theorem dX7_effectBy_46 : decode cX7_effectBy 46 = .ok (.laload, 1) := by decide +kernel
theorem dX7_effectBy_47 : decode cX7_effectBy 47 = .ok (.lmul, 1) := by decide +kernel
theorem dX7_effectBy_48 : decode cX7_effectBy 48 = .ok (.aload_n 0, 1) := by decide +kernel
theorem dX7_effectBy_49 : decode cX7_effectBy 49 = .ok (.aload_n 1, 1) := by decide +kernel
theorem dX7_effectBy_50 : decode cX7_effectBy 50 = .ok (.iload 6, 2) := by decide +kernel
theorem dX7_effectBy_52 : decode cX7_effectBy 52 = .ok (.invokevirtual 69, 3) := by decide +kernel
theorem dX7_effectBy_55 : decode cX7_effectBy 55 = .ok (.lsub, 1) := by decide +kernel
theorem dX7_effectBy_56 : decode cX7_effectBy 56 = .ok (.ladd, 1) := by decide +kernel
theorem dX7_effectBy_57 : decode cX7_effectBy 57 = .ok (.lstore_n 3, 1) := by decide +kernel
theorem dX7_effectBy_58 : decode cX7_effectBy 58 = .ok (.iinc 5 1, 3) := by decide +kernel
theorem dX7_effectBy_61 : decode cX7_effectBy 61 = .ok (.goto (-51), 3) := by decide +kernel
theorem dX7_effectBy_64 : decode cX7_effectBy 64 = .ok (.lload_n 3, 1) := by decide +kernel
theorem dX7_effectBy_65 : decode cX7_effectBy 65 = .ok (.lreturn, 1) := by decide +kernel
theorem dX7_neverRise_0 : decode cX7_neverRise 0 = .ok (.lconst 0, 1) := by decide +kernel
theorem dX7_neverRise_1 : decode cX7_neverRise 1 = .ok (.lstore_n 3, 1) := by decide +kernel
theorem dX7_neverRise_2 : decode cX7_neverRise 2 = .ok (.iconst 0, 1) := by decide +kernel
theorem dX7_neverRise_3 : decode cX7_neverRise 3 = .ok (.istore 5, 2) := by decide +kernel
theorem dX7_neverRise_5 : decode cX7_neverRise 5 = .ok (.iload 5, 2) := by decide +kernel
theorem dX7_neverRise_7 : decode cX7_neverRise 7 = .ok (.bipush 6, 2) := by decide +kernel
theorem dX7_neverRise_9 : decode cX7_neverRise 9 = .ok (.if_icmp .ge 33, 3) := by decide +kernel
theorem dX7_neverRise_12 : decode cX7_neverRise 12 = .ok (.aload_n 1, 1) := by decide +kernel
theorem dX7_neverRise_13 : decode cX7_neverRise 13 = .ok (.iload 5, 2) := by decide +kernel
theorem dX7_neverRise_15 : decode cX7_neverRise 15 = .ok (.iaload, 1) := by decide +kernel
theorem dX7_neverRise_16 : decode cX7_neverRise 16 = .ok (.bipush 12, 2) := by decide +kernel
theorem dX7_neverRise_18 : decode cX7_neverRise 18 = .ok (.if_icmp .ne 18, 3) := by decide +kernel
theorem dX7_neverRise_21 : decode cX7_neverRise 21 = .ok (.lload_n 3, 1) := by decide +kernel
theorem dX7_neverRise_22 : decode cX7_neverRise 22 = .ok (.aload_n 0, 1) := by decide +kernel
theorem dX7_neverRise_23 : decode cX7_neverRise 23 = .ok (.getfield 18, 3) := by decide +kernel
theorem dX7_neverRise_26 : decode cX7_neverRise 26 = .ok (.iload 5, 2) := by decide +kernel
theorem dX7_neverRise_28 : decode cX7_neverRise 28 = .ok (.bipush 12, 2) := by decide +kernel
theorem dX7_neverRise_30 : decode cX7_neverRise 30 = .ok (.imul, 1) := by decide +kernel
theorem dX7_neverRise_31 : decode cX7_neverRise 31 = .ok (.iload_n 2, 1) := by decide +kernel
theorem dX7_neverRise_32 : decode cX7_neverRise 32 = .ok (.iadd, 1) := by decide +kernel
theorem dX7_neverRise_33 : decode cX7_neverRise 33 = .ok (.laload, 1) := by decide +kernel
theorem dX7_neverRise_34 : decode cX7_neverRise 34 = .ok (.ladd, 1) := by decide +kernel
theorem dX7_neverRise_35 : decode cX7_neverRise 35 = .ok (.lstore_n 3, 1) := by decide +kernel
theorem dX7_neverRise_36 : decode cX7_neverRise 36 = .ok (.iinc 5 1, 3) := by decide +kernel
theorem dX7_neverRise_39 : decode cX7_neverRise 39 = .ok (.goto (-34), 3) := by decide +kernel
theorem dX7_neverRise_42 : decode cX7_neverRise 42 = .ok (.lload_n 3, 1) := by decide +kernel
theorem dX7_neverRise_43 : decode cX7_neverRise 43 = .ok (.lreturn, 1) := by decide +kernel
theorem dX7_deal_0 : decode cX7_deal 0 = .ok (.iconst 0, 1) := by decide +kernel
theorem dX7_deal_1 : decode cX7_deal 1 = .ok (.istore_n 2, 1) := by decide +kernel
theorem dX7_deal_2 : decode cX7_deal 2 = .ok (.iload_n 2, 1) := by decide +kernel
theorem dX7_deal_3 : decode cX7_deal 3 = .ok (.bipush 6, 2) := by decide +kernel
theorem dX7_deal_5 : decode cX7_deal 5 = .ok (.if_icmp .ge 21, 3) := by decide +kernel
theorem dX7_deal_8 : decode cX7_deal 8 = .ok (.aload_n 0, 1) := by decide +kernel
theorem dX7_deal_9 : decode cX7_deal 9 = .ok (.getfield 22, 3) := by decide +kernel
theorem dX7_deal_12 : decode cX7_deal 12 = .ok (.iload_n 2, 1) := by decide +kernel
theorem dX7_deal_13 : decode cX7_deal 13 = .ok (.aload_n 0, 1) := by decide +kernel
theorem dX7_deal_14 : decode cX7_deal 14 = .ok (.getfield 9, 3) := by decide +kernel
theorem dX7_deal_17 : decode cX7_deal 17 = .ok (.iload_n 2, 1) := by decide +kernel
theorem dX7_deal_18 : decode cX7_deal 18 = .ok (.iaload, 1) := by decide +kernel
theorem dX7_deal_19 : decode cX7_deal 19 = .ok (.iastore, 1) := by decide +kernel
theorem dX7_deal_20 : decode cX7_deal 20 = .ok (.iinc 2 1, 3) := by decide +kernel
theorem dX7_deal_23 : decode cX7_deal 23 = .ok (.goto (-21), 3) := by decide +kernel
theorem dX7_deal_26 : decode cX7_deal 26 = .ok (.iload_n 1, 1) := by decide +kernel
theorem dX7_deal_27 : decode cX7_deal 27 = .ok (.istore_n 2, 1) := by decide +kernel
theorem dX7_deal_28 : decode cX7_deal 28 = .ok (.iconst 0, 1) := by decide +kernel
theorem dX7_deal_29 : decode cX7_deal 29 = .ok (.istore_n 3, 1) := by decide +kernel
theorem dX7_deal_30 : decode cX7_deal 30 = .ok (.iload_n 3, 1) := by decide +kernel
theorem dX7_deal_31 : decode cX7_deal 31 = .ok (.bipush 6, 2) := by decide +kernel
theorem dX7_deal_33 : decode cX7_deal 33 = .ok (.if_icmp .ge 57, 3) := by decide +kernel
theorem dX7_deal_36 : decode cX7_deal 36 = .ok (.bipush 6, 2) := by decide +kernel
theorem dX7_deal_38 : decode cX7_deal 38 = .ok (.iload_n 3, 1) := by decide +kernel
theorem dX7_deal_39 : decode cX7_deal 39 = .ok (.isub, 1) := by decide +kernel
theorem dX7_deal_40 : decode cX7_deal 40 = .ok (.istore 4, 2) := by decide +kernel
theorem dX7_deal_42 : decode cX7_deal 42 = .ok (.iload_n 2, 1) := by decide +kernel
theorem dX7_deal_43 : decode cX7_deal 43 = .ok (.iload 4, 2) := by decide +kernel
theorem dX7_deal_45 : decode cX7_deal 45 = .ok (.invokestatic 73, 3) := by decide +kernel
theorem dX7_deal_48 : decode cX7_deal 48 = .ok (.istore 5, 2) := by decide +kernel
theorem dX7_deal_50 : decode cX7_deal 50 = .ok (.iload_n 2, 1) := by decide +kernel
theorem dX7_deal_51 : decode cX7_deal 51 = .ok (.iload 4, 2) := by decide +kernel
theorem dX7_deal_53 : decode cX7_deal 53 = .ok (.idiv, 1) := by decide +kernel
theorem dX7_deal_54 : decode cX7_deal 54 = .ok (.istore_n 2, 1) := by decide +kernel
theorem dX7_deal_55 : decode cX7_deal 55 = .ok (.aload_n 0, 1) := by decide +kernel
theorem dX7_deal_56 : decode cX7_deal 56 = .ok (.getfield 25, 3) := by decide +kernel
theorem dX7_deal_59 : decode cX7_deal 59 = .ok (.iload_n 3, 1) := by decide +kernel
theorem dX7_deal_60 : decode cX7_deal 60 = .ok (.aload_n 0, 1) := by decide +kernel
theorem dX7_deal_61 : decode cX7_deal 61 = .ok (.getfield 22, 3) := by decide +kernel
theorem dX7_deal_64 : decode cX7_deal 64 = .ok (.iload 5, 2) := by decide +kernel
theorem dX7_deal_66 : decode cX7_deal 66 = .ok (.iaload, 1) := by decide +kernel
theorem dX7_deal_67 : decode cX7_deal 67 = .ok (.iastore, 1) := by decide +kernel
theorem dX7_deal_68 : decode cX7_deal 68 = .ok (.aload_n 0, 1) := by decide +kernel
theorem dX7_deal_69 : decode cX7_deal 69 = .ok (.getfield 22, 3) := by decide +kernel
theorem dX7_deal_72 : decode cX7_deal 72 = .ok (.iload 5, 2) := by decide +kernel
theorem dX7_deal_74 : decode cX7_deal 74 = .ok (.aload_n 0, 1) := by decide +kernel
theorem dX7_deal_75 : decode cX7_deal 75 = .ok (.getfield 22, 3) := by decide +kernel
theorem dX7_deal_78 : decode cX7_deal 78 = .ok (.iload 4, 2) := by decide +kernel
theorem dX7_deal_80 : decode cX7_deal 80 = .ok (.iconst 1, 1) := by decide +kernel
theorem dX7_deal_81 : decode cX7_deal 81 = .ok (.isub, 1) := by decide +kernel
theorem dX7_deal_82 : decode cX7_deal 82 = .ok (.iaload, 1) := by decide +kernel
theorem dX7_deal_83 : decode cX7_deal 83 = .ok (.iastore, 1) := by decide +kernel
theorem dX7_deal_84 : decode cX7_deal 84 = .ok (.iinc 3 1, 3) := by decide +kernel
theorem dX7_deal_87 : decode cX7_deal 87 = .ok (.goto (-57), 3) := by decide +kernel
theorem dX7_deal_90 : decode cX7_deal 90 = .ok (.return_, 1) := by decide +kernel
theorem dX8_init_0 : decode cX8_init 0 = .ok (.aload_n 0, 1) := by decide +kernel
theorem dX8_init_1 : decode cX8_init 1 = .ok (.invokespecial 3, 3) := by decide +kernel
theorem dX8_init_4 : decode cX8_init 4 = .ok (.aload_n 0, 1) := by decide +kernel
theorem dX8_init_5 : decode cX8_init 5 = .ok (.bipush 6, 2) := by decide +kernel
theorem dX8_init_7 : decode cX8_init 7 = .ok (.newarray .int, 2) := by decide +kernel
theorem dX8_init_9 : decode cX8_init 9 = .ok (.putfield 9, 3) := by decide +kernel
theorem dX8_init_12 : decode cX8_init 12 = .ok (.aload_n 0, 1) := by decide +kernel
theorem dX8_init_13 : decode cX8_init 13 = .ok (.bipush 6, 2) := by decide +kernel
theorem dX8_init_15 : decode cX8_init 15 = .ok (.newarray .int, 2) := by decide +kernel
theorem dX8_init_17 : decode cX8_init 17 = .ok (.putfield 15, 3) := by decide +kernel
theorem dX8_init_20 : decode cX8_init 20 = .ok (.aload_n 0, 1) := by decide +kernel
theorem dX8_init_21 : decode cX8_init 21 = .ok (.bipush 6, 2) := by decide +kernel
theorem dX8_init_23 : decode cX8_init 23 = .ok (.newarray .int, 2) := by decide +kernel
theorem dX8_init_25 : decode cX8_init 25 = .ok (.putfield 18, 3) := by decide +kernel
theorem dX8_init_28 : decode cX8_init 28 = .ok (.aload_n 0, 1) := by decide +kernel
theorem dX8_init_29 : decode cX8_init 29 = .ok (.bipush 36, 2) := by decide +kernel
theorem dX8_init_31 : decode cX8_init 31 = .ok (.newarray .int, 2) := by decide +kernel
theorem dX8_init_33 : decode cX8_init 33 = .ok (.putfield 21, 3) := by decide +kernel
theorem dX8_init_36 : decode cX8_init 36 = .ok (.aload_n 0, 1) := by decide +kernel
theorem dX8_init_37 : decode cX8_init 37 = .ok (.bipush 6, 2) := by decide +kernel
theorem dX8_init_39 : decode cX8_init 39 = .ok (.newarray .int, 2) := by decide +kernel
theorem dX8_init_41 : decode cX8_init 41 = .ok (.putfield 24, 3) := by decide +kernel
theorem dX8_init_44 : decode cX8_init 44 = .ok (.aload_n 0, 1) := by decide +kernel
theorem dX8_init_45 : decode cX8_init 45 = .ok (.bipush 6, 2) := by decide +kernel
theorem dX8_init_47 : decode cX8_init 47 = .ok (.newarray .int, 2) := by decide +kernel
theorem dX8_init_49 : decode cX8_init 49 = .ok (.putfield 27, 3) := by decide +kernel
theorem dX8_init_52 : decode cX8_init 52 = .ok (.aload_n 0, 1) := by decide +kernel
theorem dX8_init_53 : decode cX8_init 53 = .ok (.bipush 15, 2) := by decide +kernel
theorem dX8_init_55 : decode cX8_init 55 = .ok (.newarray .int, 2) := by decide +kernel
theorem dX8_init_57 : decode cX8_init 57 = .ok (.putfield 30, 3) := by decide +kernel
theorem dX8_init_60 : decode cX8_init 60 = .ok (.aload_n 0, 1) := by decide +kernel
theorem dX8_init_61 : decode cX8_init 61 = .ok (.sipush 512, 3) := by decide +kernel
theorem dX8_init_64 : decode cX8_init 64 = .ok (.newarray .int, 2) := by decide +kernel
theorem dX8_init_66 : decode cX8_init 66 = .ok (.putfield 33, 3) := by decide +kernel
theorem dX8_init_69 : decode cX8_init 69 = .ok (.aload_n 0, 1) := by decide +kernel
theorem dX8_init_70 : decode cX8_init 70 = .ok (.bipush 64, 2) := by decide +kernel
theorem dX8_init_72 : decode cX8_init 72 = .ok (.newarray .int, 2) := by decide +kernel
theorem dX8_init_74 : decode cX8_init 74 = .ok (.putfield 36, 3) := by decide +kernel
theorem dX8_init_77 : decode cX8_init 77 = .ok (.aload_n 0, 1) := by decide +kernel
theorem dX8_init_78 : decode cX8_init 78 = .ok (.bipush 64, 2) := by decide +kernel
theorem dX8_init_80 : decode cX8_init 80 = .ok (.newarray .int, 2) := by decide +kernel
theorem dX8_init_82 : decode cX8_init 82 = .ok (.putfield 39, 3) := by decide +kernel
theorem dX8_init_85 : decode cX8_init 85 = .ok (.aload_n 0, 1) := by decide +kernel
theorem dX8_init_86 : decode cX8_init 86 = .ok (.iconst 0, 1) := by decide +kernel
theorem dX8_init_87 : decode cX8_init 87 = .ok (.putfield 42, 3) := by decide +kernel
theorem dX8_init_90 : decode cX8_init 90 = .ok (.aload_n 0, 1) := by decide +kernel
theorem dX8_init_91 : decode cX8_init 91 = .ok (.iconst 1, 1) := by decide +kernel
theorem dX8_init_92 : decode cX8_init 92 = .ok (.putfield 46, 3) := by decide +kernel
theorem dX8_init_95 : decode cX8_init 95 = .ok (.return_, 1) := by decide +kernel
theorem dX8_open_0 : decode cX8_open 0 = .ok (.aload_n 0, 1) := by decide +kernel
theorem dX8_open_1 : decode cX8_open 1 = .ok (.iconst 0, 1) := by decide +kernel
theorem dX8_open_2 : decode cX8_open 2 = .ok (.putfield 42, 3) := by decide +kernel
theorem dX8_open_5 : decode cX8_open 5 = .ok (.aload_n 0, 1) := by decide +kernel
theorem dX8_open_6 : decode cX8_open 6 = .ok (.iconst 1, 1) := by decide +kernel
theorem dX8_open_7 : decode cX8_open 7 = .ok (.iconst 0, 1) := by decide +kernel
theorem dX8_open_8 : decode cX8_open 8 = .ok (.iload_n 1, 1) := by decide +kernel
theorem dX8_open_9 : decode cX8_open 9 = .ok (.iconst 3, 1) := by decide +kernel
theorem dX8_open_10 : decode cX8_open 10 = .ok (.invokestatic 49, 3) := by decide +kernel
theorem dX8_open_13 : decode cX8_open 13 = .ok (.invokestatic 55, 3) := by decide +kernel
theorem dX8_open_16 : decode cX8_open 16 = .ok (.ishl, 1) := by decide +kernel
theorem dX8_open_17 : decode cX8_open 17 = .ok (.putfield 46, 3) := by decide +kernel
theorem dX8_open_20 : decode cX8_open 20 = .ok (.aload_n 0, 1) := by decide +kernel
theorem dX8_open_21 : decode cX8_open 21 = .ok (.getfield 30, 3) := by decide +kernel
theorem dX8_open_24 : decode cX8_open 24 = .ok (.iload_n 2, 1) := by decide +kernel
theorem dX8_open_25 : decode cX8_open 25 = .ok (.invokestatic 58, 3) := by decide +kernel
theorem dX8_open_28 : decode cX8_open 28 = .ok (.return_, 1) := by decide +kernel
theorem dX8_add_0 : decode cX8_add 0 = .ok (.aload_n 0, 1) := by decide +kernel
theorem dX8_add_1 : decode cX8_add 1 = .ok (.getfield 42, 3) := by decide +kernel
theorem dX8_add_4 : decode cX8_add 4 = .ok (.iconst 5, 1) := by decide +kernel
theorem dX8_add_5 : decode cX8_add 5 = .ok (.invokestatic 49, 3) := by decide +kernel
theorem dX8_add_8 : decode cX8_add 8 = .ok (.istore 4, 2) := by decide +kernel
theorem dX8_add_10 : decode cX8_add 10 = .ok (.aload_n 0, 1) := by decide +kernel
theorem dX8_add_11 : decode cX8_add 11 = .ok (.getfield 9, 3) := by decide +kernel
theorem dX8_add_14 : decode cX8_add 14 = .ok (.iload 4, 2) := by decide +kernel
theorem dX8_add_16 : decode cX8_add 16 = .ok (.iload_n 1, 1) := by decide +kernel
theorem dX8_add_17 : decode cX8_add 17 = .ok (.iastore, 1) := by decide +kernel
theorem dX8_add_18 : decode cX8_add 18 = .ok (.aload_n 0, 1) := by decide +kernel
theorem dX8_add_19 : decode cX8_add 19 = .ok (.getfield 15, 3) := by decide +kernel
theorem dX8_add_22 : decode cX8_add 22 = .ok (.iload 4, 2) := by decide +kernel
theorem dX8_add_24 : decode cX8_add 24 = .ok (.iload_n 2, 1) := by decide +kernel
theorem dX8_add_25 : decode cX8_add 25 = .ok (.iastore, 1) := by decide +kernel
theorem dX8_add_26 : decode cX8_add 26 = .ok (.aload_n 0, 1) := by decide +kernel
theorem dX8_add_27 : decode cX8_add 27 = .ok (.getfield 18, 3) := by decide +kernel
theorem dX8_add_30 : decode cX8_add 30 = .ok (.iload 4, 2) := by decide +kernel
theorem dX8_add_32 : decode cX8_add 32 = .ok (.iload_n 3, 1) := by decide +kernel
theorem dX8_add_33 : decode cX8_add 33 = .ok (.iastore, 1) := by decide +kernel
theorem dX8_add_34 : decode cX8_add 34 = .ok (.aload_n 0, 1) := by decide +kernel
theorem dX8_add_35 : decode cX8_add 35 = .ok (.iload 4, 2) := by decide +kernel
theorem dX8_add_37 : decode cX8_add 37 = .ok (.iconst 1, 1) := by decide +kernel
theorem dX8_add_38 : decode cX8_add 38 = .ok (.iadd, 1) := by decide +kernel
theorem dX8_add_39 : decode cX8_add 39 = .ok (.putfield 42, 3) := by decide +kernel
theorem dX8_add_42 : decode cX8_add 42 = .ok (.iload 4, 2) := by decide +kernel
theorem dX8_add_44 : decode cX8_add 44 = .ok (.ireturn, 1) := by decide +kernel
theorem dX8_setPrice_0 : decode cX8_setPrice 0 = .ok (.aload_n 0, 1) := by decide +kernel
theorem dX8_setPrice_1 : decode cX8_setPrice 1 = .ok (.getfield 21, 3) := by decide +kernel
theorem dX8_setPrice_4 : decode cX8_setPrice 4 = .ok (.iload_n 1, 1) := by decide +kernel
theorem dX8_setPrice_5 : decode cX8_setPrice 5 = .ok (.bipush 6, 2) := by decide +kernel
theorem dX8_setPrice_7 : decode cX8_setPrice 7 = .ok (.imul, 1) := by decide +kernel
theorem dX8_setPrice_8 : decode cX8_setPrice 8 = .ok (.iload_n 2, 1) := by decide +kernel
theorem dX8_setPrice_9 : decode cX8_setPrice 9 = .ok (.iadd, 1) := by decide +kernel
theorem dX8_setPrice_10 : decode cX8_setPrice 10 = .ok (.iload_n 3, 1) := by decide +kernel
theorem dX8_setPrice_11 : decode cX8_setPrice 11 = .ok (.iastore, 1) := by decide +kernel
theorem dX8_setPrice_12 : decode cX8_setPrice 12 = .ok (.return_, 1) := by decide +kernel
theorem dX8_dayAt_0 : decode cX8_dayAt 0 = .ok (.iconst 0, 1) := by decide +kernel
theorem dX8_dayAt_1 : decode cX8_dayAt 1 = .ok (.istore_n 2, 1) := by decide +kernel
theorem dX8_dayAt_2 : decode cX8_dayAt 2 = .ok (.iload_n 2, 1) := by decide +kernel
theorem dX8_dayAt_3 : decode cX8_dayAt 3 = .ok (.aload_n 0, 1) := by decide +kernel
theorem dX8_dayAt_4 : decode cX8_dayAt 4 = .ok (.getfield 42, 3) := by decide +kernel
theorem dX8_dayAt_7 : decode cX8_dayAt 7 = .ok (.if_icmp .ge 26, 3) := by decide +kernel
theorem dX8_dayAt_10 : decode cX8_dayAt 10 = .ok (.aload_n 0, 1) := by decide +kernel
theorem dX8_dayAt_11 : decode cX8_dayAt 11 = .ok (.getfield 9, 3) := by decide +kernel
theorem dX8_dayAt_14 : decode cX8_dayAt 14 = .ok (.iload_n 2, 1) := by decide +kernel
theorem dX8_dayAt_15 : decode cX8_dayAt 15 = .ok (.iaload, 1) := by decide +kernel
theorem dX8_dayAt_16 : decode cX8_dayAt 16 = .ok (.iload_n 1, 1) := by decide +kernel
theorem dX8_dayAt_17 : decode cX8_dayAt 17 = .ok (.if_icmp .ne 10, 3) := by decide +kernel
theorem dX8_dayAt_20 : decode cX8_dayAt 20 = .ok (.aload_n 0, 1) := by decide +kernel
theorem dX8_dayAt_21 : decode cX8_dayAt 21 = .ok (.getfield 24, 3) := by decide +kernel
theorem dX8_dayAt_24 : decode cX8_dayAt 24 = .ok (.iload_n 2, 1) := by decide +kernel
theorem dX8_dayAt_25 : decode cX8_dayAt 25 = .ok (.iaload, 1) := by decide +kernel
theorem dX8_dayAt_26 : decode cX8_dayAt 26 = .ok (.ireturn, 1) := by decide +kernel
theorem dX8_dayAt_27 : decode cX8_dayAt 27 = .ok (.iinc 2 1, 3) := by decide +kernel
theorem dX8_dayAt_30 : decode cX8_dayAt 30 = .ok (.goto (-28), 3) := by decide +kernel
theorem dX8_dayAt_33 : decode cX8_dayAt 33 = .ok (.iconst 5, 1) := by decide +kernel
theorem dX8_dayAt_34 : decode cX8_dayAt 34 = .ok (.ireturn, 1) := by decide +kernel
theorem dX8_handsAt_0 : decode cX8_handsAt 0 = .ok (.iconst 0, 1) := by decide +kernel
theorem dX8_handsAt_1 : decode cX8_handsAt 1 = .ok (.istore_n 2, 1) := by decide +kernel
theorem dX8_handsAt_2 : decode cX8_handsAt 2 = .ok (.iload_n 2, 1) := by decide +kernel
theorem dX8_handsAt_3 : decode cX8_handsAt 3 = .ok (.aload_n 0, 1) := by decide +kernel
theorem dX8_handsAt_4 : decode cX8_handsAt 4 = .ok (.getfield 42, 3) := by decide +kernel
theorem dX8_handsAt_7 : decode cX8_handsAt 7 = .ok (.if_icmp .ge 26, 3) := by decide +kernel
theorem dX8_handsAt_10 : decode cX8_handsAt 10 = .ok (.aload_n 0, 1) := by decide +kernel
theorem dX8_handsAt_11 : decode cX8_handsAt 11 = .ok (.getfield 9, 3) := by decide +kernel
theorem dX8_handsAt_14 : decode cX8_handsAt 14 = .ok (.iload_n 2, 1) := by decide +kernel
theorem dX8_handsAt_15 : decode cX8_handsAt 15 = .ok (.iaload, 1) := by decide +kernel
theorem dX8_handsAt_16 : decode cX8_handsAt 16 = .ok (.iload_n 1, 1) := by decide +kernel
theorem dX8_handsAt_17 : decode cX8_handsAt 17 = .ok (.if_icmp .ne 10, 3) := by decide +kernel
theorem dX8_handsAt_20 : decode cX8_handsAt 20 = .ok (.aload_n 0, 1) := by decide +kernel
theorem dX8_handsAt_21 : decode cX8_handsAt 21 = .ok (.getfield 27, 3) := by decide +kernel
theorem dX8_handsAt_24 : decode cX8_handsAt 24 = .ok (.iload_n 2, 1) := by decide +kernel
theorem dX8_handsAt_25 : decode cX8_handsAt 25 = .ok (.iaload, 1) := by decide +kernel
theorem dX8_handsAt_26 : decode cX8_handsAt 26 = .ok (.ireturn, 1) := by decide +kernel
theorem dX8_handsAt_27 : decode cX8_handsAt 27 = .ok (.iinc 2 1, 3) := by decide +kernel
theorem dX8_handsAt_30 : decode cX8_handsAt 30 = .ok (.goto (-28), 3) := by decide +kernel
theorem dX8_handsAt_33 : decode cX8_handsAt 33 = .ok (.iconst 0, 1) := by decide +kernel
theorem dX8_handsAt_34 : decode cX8_handsAt 34 = .ok (.ireturn, 1) := by decide +kernel
theorem dX8_settleAll_0 : decode cX8_settleAll 0 = .ok (.aload_n 0, 1) := by decide +kernel
theorem dX8_settleAll_1 : decode cX8_settleAll 1 = .ok (.invokevirtual 64, 3) := by decide +kernel
theorem dX8_settleAll_4 : decode cX8_settleAll 4 = .ok (.aload_n 0, 1) := by decide +kernel
theorem dX8_settleAll_5 : decode cX8_settleAll 5 = .ok (.iconst 0, 1) := by decide +kernel
theorem dX8_settleAll_6 : decode cX8_settleAll 6 = .ok (.invokevirtual 67, 3) := by decide +kernel
theorem dX8_settleAll_9 : decode cX8_settleAll 9 = .ok (.istore_n 1, 1) := by decide +kernel
theorem dX8_settleAll_10 : decode cX8_settleAll 10 = .ok (.iload_n 1, 1) := by decide +kernel
theorem dX8_settleAll_11 : decode cX8_settleAll 11 = .ok (.istore_n 2, 1) := by decide +kernel
theorem dX8_settleAll_12 : decode cX8_settleAll 12 = .ok (.iconst 0, 1) := by decide +kernel
theorem dX8_settleAll_13 : decode cX8_settleAll 13 = .ok (.istore_n 3, 1) := by decide +kernel
theorem dX8_settleAll_14 : decode cX8_settleAll 14 = .ok (.iload_n 3, 1) := by decide +kernel
theorem dX8_settleAll_15 : decode cX8_settleAll 15 = .ok (.aload_n 0, 1) := by decide +kernel
theorem dX8_settleAll_16 : decode cX8_settleAll 16 = .ok (.getfield 42, 3) := by decide +kernel
theorem dX8_settleAll_19 : decode cX8_settleAll 19 = .ok (.if_icmp .ge 18, 3) := by decide +kernel
theorem dX8_settleAll_22 : decode cX8_settleAll 22 = .ok (.iload_n 2, 1) := by decide +kernel
theorem dX8_settleAll_23 : decode cX8_settleAll 23 = .ok (.aload_n 0, 1) := by decide +kernel
theorem dX8_settleAll_24 : decode cX8_settleAll 24 = .ok (.iload_n 3, 1) := by decide +kernel
theorem dX8_settleAll_25 : decode cX8_settleAll 25 = .ok (.iload_n 2, 1) := by decide +kernel
theorem dX8_settleAll_26 : decode cX8_settleAll 26 = .ok (.invokevirtual 71, 3) := by decide +kernel
theorem dX8_settleAll_29 : decode cX8_settleAll 29 = .ok (.isub, 1) := by decide +kernel
theorem dX8_settleAll_30 : decode cX8_settleAll 30 = .ok (.istore_n 2, 1) := by decide +kernel
theorem dX8_settleAll_31 : decode cX8_settleAll 31 = .ok (.iinc 3 1, 3) := by decide +kernel
theorem dX8_settleAll_34 : decode cX8_settleAll 34 = .ok (.goto (-20), 3) := by decide +kernel
theorem dX8_settleAll_37 : decode cX8_settleAll 37 = .ok (.iload_n 1, 1) := by decide +kernel
theorem dX8_settleAll_38 : decode cX8_settleAll 38 = .ok (.ireturn, 1) := by decide +kernel
theorem dX8_settle_0 : decode cX8_settle 0 = .ok (.iconst 0, 1) := by decide +kernel
theorem dX8_settle_1 : decode cX8_settle 1 = .ok (.istore_n 3, 1) := by decide +kernel
theorem dX8_settle_2 : decode cX8_settle 2 = .ok (.iload_n 3, 1) := by decide +kernel
theorem dX8_settle_3 : decode cX8_settle 3 = .ok (.iconst 5, 1) := by decide +kernel
theorem dX8_settle_4 : decode cX8_settle 4 = .ok (.if_icmp .ge 94, 3) := by decide +kernel
theorem dX8_settle_7 : decode cX8_settle 7 = .ok (.aload_n 0, 1) := by decide +kernel
theorem dX8_settle_8 : decode cX8_settle 8 = .ok (.iload_n 1, 1) := by decide +kernel
theorem dX8_settle_9 : decode cX8_settle 9 = .ok (.iload_n 3, 1) := by decide +kernel
theorem dX8_settle_10 : decode cX8_settle 10 = .ok (.invokevirtual 74, 3) := by decide +kernel
theorem dX8_settle_13 : decode cX8_settle 13 = .ok (.istore 4, 2) := by decide +kernel
theorem dX8_settle_15 : decode cX8_settle 15 = .ok (.iconst 1, 1) := by decide +kernel
theorem dX8_settle_16 : decode cX8_settle 16 = .ok (.istore 5, 2) := by decide +kernel
theorem dX8_settle_18 : decode cX8_settle 18 = .ok (.iload 5, 2) := by decide +kernel
theorem dX8_settle_20 : decode cX8_settle 20 = .ok (.aload_n 0, 1) := by decide +kernel
theorem dX8_settle_21 : decode cX8_settle 21 = .ok (.getfield 46, 3) := by decide +kernel
theorem dX8_settle_24 : decode cX8_settle 24 = .ok (.if_icmp .ge 68, 3) := by decide +kernel
theorem dX8_settle_27 : decode cX8_settle 27 = .ok (.iload 4, 2) := by decide +kernel
theorem dX8_settle_29 : decode cX8_settle 29 = .ok (.iload_n 2, 1) := by decide +kernel
theorem dX8_settle_30 : decode cX8_settle 30 = .ok (.if_icmp .gt 62, 3) := by decide +kernel
theorem dX8_settle_33 : decode cX8_settle 33 = .ok (.aload_n 0, 1) := by decide +kernel
theorem dX8_settle_34 : decode cX8_settle 34 = .ok (.iload_n 1, 1) := by decide +kernel
theorem dX8_settle_35 : decode cX8_settle 35 = .ok (.iload_n 3, 1) := by decide +kernel
theorem dX8_settle_36 : decode cX8_settle 36 = .ok (.iload 5, 2) := by decide +kernel
theorem dX8_settle_38 : decode cX8_settle 38 = .ok (.invokevirtual 77, 3) := by decide +kernel
theorem dX8_settle_41 : decode cX8_settle 41 = .ok (.ifCond .ne 6, 3) := by decide +kernel
theorem dX8_settle_44 : decode cX8_settle 44 = .ok (.goto 42, 3) := by decide +kernel
theorem dX8_settle_47 : decode cX8_settle 47 = .ok (.aload_n 0, 1) := by decide +kernel
theorem dX8_settle_48 : decode cX8_settle 48 = .ok (.iload_n 3, 1) := by decide +kernel
theorem dX8_settle_49 : decode cX8_settle 49 = .ok (.iload 5, 2) := by decide +kernel
theorem dX8_settle_51 : decode cX8_settle 51 = .ok (.iconst (-1), 1) := by decide +kernel
theorem dX8_settle_52 : decode cX8_settle 52 = .ok (.invokevirtual 81, 3) := by decide +kernel
theorem dX8_settle_55 : decode cX8_settle 55 = .ok (.iload 4, 2) := by decide +kernel
theorem dX8_settle_57 : decode cX8_settle 57 = .ok (.aload_n 0, 1) := by decide +kernel
theorem dX8_settle_58 : decode cX8_settle 58 = .ok (.iload_n 1, 1) := by decide +kernel
theorem dX8_settle_59 : decode cX8_settle 59 = .ok (.iconst 1, 1) := by decide +kernel
theorem dX8_settle_60 : decode cX8_settle 60 = .ok (.iadd, 1) := by decide +kernel
theorem dX8_settle_61 : decode cX8_settle 61 = .ok (.invokevirtual 67, 3) := by decide +kernel
theorem dX8_settle_64 : decode cX8_settle 64 = .ok (.iadd, 1) := by decide +kernel
theorem dX8_settle_65 : decode cX8_settle 65 = .ok (.iload_n 2, 1) := by decide +kernel
theorem dX8_settle_66 : decode cX8_settle 66 = .ok (.if_icmp .ne 12, 3) := by decide +kernel
theorem dX8_settle_69 : decode cX8_settle 69 = .ok (.aload_n 0, 1) := by decide +kernel
theorem dX8_settle_70 : decode cX8_settle 70 = .ok (.iload_n 1, 1) := by decide +kernel
theorem dX8_settle_71 : decode cX8_settle 71 = .ok (.iload_n 3, 1) := by decide +kernel
theorem dX8_settle_72 : decode cX8_settle 72 = .ok (.iload 5, 2) := by decide +kernel
theorem dX8_settle_74 : decode cX8_settle 74 = .ok (.invokevirtual 85, 3) := by decide +kernel
theorem dX8_settle_77 : decode cX8_settle 77 = .ok (.ireturn, 1) := by decide +kernel
theorem dX8_settle_78 : decode cX8_settle 78 = .ok (.aload_n 0, 1) := by decide +kernel
theorem dX8_settle_79 : decode cX8_settle 79 = .ok (.iload_n 3, 1) := by decide +kernel
theorem dX8_settle_80 : decode cX8_settle 80 = .ok (.iload 5, 2) := by decide +kernel
theorem dX8_settle_82 : decode cX8_settle 82 = .ok (.iconst 1, 1) := by decide +kernel
theorem dX8_settle_83 : decode cX8_settle 83 = .ok (.invokevirtual 81, 3) := by decide +kernel
theorem dX8_settle_86 : decode cX8_settle 86 = .ok (.iinc 5 1, 3) := by decide +kernel
theorem dX8_settle_89 : decode cX8_settle 89 = .ok (.goto (-71), 3) := by decide +kernel
theorem dX8_settle_92 : decode cX8_settle 92 = .ok (.iinc 3 1, 3) := by decide +kernel
theorem dX8_settle_95 : decode cX8_settle 95 = .ok (.goto (-93), 3) := by decide +kernel
theorem dX8_settle_98 : decode cX8_settle 98 = .ok (.aload_n 0, 1) := by decide +kernel
theorem dX8_settle_99 : decode cX8_settle 99 = .ok (.iload_n 1, 1) := by decide +kernel
theorem dX8_settle_100 : decode cX8_settle 100 = .ok (.iconst 5, 1) := by decide +kernel
theorem dX8_settle_101 : decode cX8_settle 101 = .ok (.iconst 0, 1) := by decide +kernel
theorem dX8_settle_102 : decode cX8_settle 102 = .ok (.invokevirtual 85, 3) := by decide +kernel
theorem dX8_settle_105 : decode cX8_settle 105 = .ok (.ireturn, 1) := by decide +kernel
theorem dX8_choose_0 : decode cX8_choose 0 = .ok (.aload_n 0, 1) := by decide +kernel
theorem dX8_choose_1 : decode cX8_choose 1 = .ok (.getfield 24, 3) := by decide +kernel
theorem dX8_choose_4 : decode cX8_choose 4 = .ok (.iload_n 1, 1) := by decide +kernel
theorem dX8_choose_5 : decode cX8_choose 5 = .ok (.iload_n 2, 1) := by decide +kernel
theorem dX8_choose_6 : decode cX8_choose 6 = .ok (.iastore, 1) := by decide +kernel
theorem dX8_choose_7 : decode cX8_choose 7 = .ok (.aload_n 0, 1) := by decide +kernel
theorem dX8_choose_8 : decode cX8_choose 8 = .ok (.getfield 27, 3) := by decide +kernel
theorem dX8_choose_11 : decode cX8_choose 11 = .ok (.iload_n 1, 1) := by decide +kernel
theorem dX8_choose_12 : decode cX8_choose 12 = .ok (.iload_n 3, 1) := by decide +kernel
theorem dX8_choose_13 : decode cX8_choose 13 = .ok (.iastore, 1) := by decide +kernel
theorem dX8_choose_14 : decode cX8_choose 14 = .ok (.aload_n 0, 1) := by decide +kernel
theorem dX8_choose_15 : decode cX8_choose 15 = .ok (.iload_n 1, 1) := by decide +kernel
theorem dX8_choose_16 : decode cX8_choose 16 = .ok (.iload_n 2, 1) := by decide +kernel
theorem dX8_choose_17 : decode cX8_choose 17 = .ok (.invokevirtual 74, 3) := by decide +kernel
theorem dX8_choose_20 : decode cX8_choose 20 = .ok (.ireturn, 1) := by decide +kernel
theorem dX8_priceOf_0 : decode cX8_priceOf 0 = .ok (.aload_n 0, 1) := by decide +kernel
theorem dX8_priceOf_1 : decode cX8_priceOf 1 = .ok (.getfield 21, 3) := by decide +kernel
theorem dX8_priceOf_4 : decode cX8_priceOf 4 = .ok (.iload_n 1, 1) := by decide +kernel
theorem dX8_priceOf_5 : decode cX8_priceOf 5 = .ok (.bipush 6, 2) := by decide +kernel
theorem dX8_priceOf_7 : decode cX8_priceOf 7 = .ok (.imul, 1) := by decide +kernel
theorem dX8_priceOf_8 : decode cX8_priceOf 8 = .ok (.iload_n 2, 1) := by decide +kernel
theorem dX8_priceOf_9 : decode cX8_priceOf 9 = .ok (.iadd, 1) := by decide +kernel
theorem dX8_priceOf_10 : decode cX8_priceOf 10 = .ok (.iaload, 1) := by decide +kernel
theorem dX8_priceOf_11 : decode cX8_priceOf 11 = .ok (.ireturn, 1) := by decide +kernel
theorem dX8_mayTake_0 : decode cX8_mayTake 0 = .ok (.iload_n 3, 1) := by decide +kernel
theorem dX8_mayTake_1 : decode cX8_mayTake 1 = .ok (.aload_n 0, 1) := by decide +kernel
theorem dX8_mayTake_2 : decode cX8_mayTake 2 = .ok (.getfield 18, 3) := by decide +kernel
theorem dX8_mayTake_5 : decode cX8_mayTake 5 = .ok (.iload_n 1, 1) := by decide +kernel
theorem dX8_mayTake_6 : decode cX8_mayTake 6 = .ok (.iaload, 1) := by decide +kernel
theorem dX8_mayTake_7 : decode cX8_mayTake 7 = .ok (.iconst (-1), 1) := by decide +kernel
theorem dX8_mayTake_8 : decode cX8_mayTake 8 = .ok (.ixor, 1) := by decide +kernel
theorem dX8_mayTake_9 : decode cX8_mayTake 9 = .ok (.iand, 1) := by decide +kernel
theorem dX8_mayTake_10 : decode cX8_mayTake 10 = .ok (.ifCond .ne 16, 3) := by decide +kernel
theorem dX8_mayTake_13 : decode cX8_mayTake 13 = .ok (.iload_n 3, 1) := by decide +kernel
theorem dX8_mayTake_14 : decode cX8_mayTake 14 = .ok (.invokestatic 89, 3) := by decide +kernel
theorem dX8_mayTake_17 : decode cX8_mayTake 17 = .ok (.aload_n 0, 1) := by decide +kernel
theorem dX8_mayTake_18 : decode cX8_mayTake 18 = .ok (.getfield 15, 3) := by decide +kernel
theorem dX8_mayTake_21 : decode cX8_mayTake 21 = .ok (.iload_n 1, 1) := by decide +kernel
theorem dX8_mayTake_22 : decode cX8_mayTake 22 = .ok (.iaload, 1) := by decide +kernel
theorem dX8_mayTake_23 : decode cX8_mayTake 23 = .ok (.if_icmp .eq 5, 3) := by decide +kernel
theorem dX8_mayTake_26 : decode cX8_mayTake 26 = .ok (.iconst 0, 1) := by decide +kernel
theorem dX8_mayTake_27 : decode cX8_mayTake 27 = .ok (.ireturn, 1) := by decide +kernel
theorem dX8_mayTake_28 : decode cX8_mayTake 28 = .ok (.iconst 0, 1) := by decide +kernel
theorem dX8_mayTake_29 : decode cX8_mayTake 29 = .ok (.istore 4, 2) := by decide +kernel
theorem dX8_mayTake_31 : decode cX8_mayTake 31 = .ok (.iload 4, 2) := by decide +kernel
theorem dX8_mayTake_33 : decode cX8_mayTake 33 = .ok (.iconst 3, 1) := by decide +kernel
theorem dX8_mayTake_34 : decode cX8_mayTake 34 = .ok (.if_icmp .ge 35, 3) := by decide +kernel
theorem dX8_mayTake_37 : decode cX8_mayTake 37 = .ok (.iload_n 3, 1) := by decide +kernel
theorem dX8_mayTake_38 : decode cX8_mayTake 38 = .ok (.iload 4, 2) := by decide +kernel
theorem dX8_mayTake_40 : decode cX8_mayTake 40 = .ok (.ishr, 1) := by decide +kernel
theorem dX8_mayTake_41 : decode cX8_mayTake 41 = .ok (.iconst 1, 1) := by decide +kernel
theorem dX8_mayTake_42 : decode cX8_mayTake 42 = .ok (.iand, 1) := by decide +kernel
theorem dX8_mayTake_43 : decode cX8_mayTake 43 = .ok (.ifCond .eq 20, 3) := by decide +kernel
theorem dX8_mayTake_46 : decode cX8_mayTake 46 = .ok (.aload_n 0, 1) := by decide +kernel
theorem dX8_mayTake_47 : decode cX8_mayTake 47 = .ok (.getfield 30, 3) := by decide +kernel
theorem dX8_mayTake_50 : decode cX8_mayTake 50 = .ok (.iload_n 2, 1) := by decide +kernel
theorem dX8_mayTake_51 : decode cX8_mayTake 51 = .ok (.iconst 3, 1) := by decide +kernel
theorem dX8_mayTake_52 : decode cX8_mayTake 52 = .ok (.imul, 1) := by decide +kernel
theorem dX8_mayTake_53 : decode cX8_mayTake 53 = .ok (.iload 4, 2) := by decide +kernel
theorem dX8_mayTake_55 : decode cX8_mayTake 55 = .ok (.iadd, 1) := by decide +kernel
theorem dX8_mayTake_56 : decode cX8_mayTake 56 = .ok (.iaload, 1) := by decide +kernel
theorem dX8_mayTake_57 : decode cX8_mayTake 57 = .ok (.iconst 1, 1) := by decide +kernel
theorem dX8_mayTake_58 : decode cX8_mayTake 58 = .ok (.if_icmp .ge 5, 3) := by decide +kernel
theorem dX8_mayTake_61 : decode cX8_mayTake 61 = .ok (.iconst 0, 1) := by decide +kernel
theorem dX8_mayTake_62 : decode cX8_mayTake 62 = .ok (.ireturn, 1) := by decide +kernel
theorem dX8_mayTake_63 : decode cX8_mayTake 63 = .ok (.iinc 4 1, 3) := by decide +kernel
theorem dX8_mayTake_66 : decode cX8_mayTake 66 = .ok (.goto (-35), 3) := by decide +kernel
theorem dX8_mayTake_69 : decode cX8_mayTake 69 = .ok (.iconst 1, 1) := by decide +kernel
theorem dX8_mayTake_70 : decode cX8_mayTake 70 = .ok (.ireturn, 1) := by decide +kernel
theorem dX8_changeRoom_0 : decode cX8_changeRoom 0 = .ok (.iconst 0, 1) := by decide +kernel
theorem dX8_changeRoom_1 : decode cX8_changeRoom 1 = .ok (.istore 4, 2) := by decide +kernel
theorem dX8_changeRoom_3 : decode cX8_changeRoom 3 = .ok (.iload 4, 2) := by decide +kernel
theorem dX8_changeRoom_5 : decode cX8_changeRoom 5 = .ok (.iconst 3, 1) := by decide +kernel
theorem dX8_changeRoom_6 : decode cX8_changeRoom 6 = .ok (.if_icmp .ge 33, 3) := by decide +kernel
theorem dX8_changeRoom_9 : decode cX8_changeRoom 9 = .ok (.iload_n 2, 1) := by decide +kernel
theorem dX8_changeRoom_10 : decode cX8_changeRoom 10 = .ok (.iload 4, 2) := by decide +kernel
theorem dX8_changeRoom_12 : decode cX8_changeRoom 12 = .ok (.ishr, 1) := by decide +kernel
theorem dX8_changeRoom_13 : decode cX8_changeRoom 13 = .ok (.iconst 1, 1) := by decide +kernel
theorem dX8_changeRoom_14 : decode cX8_changeRoom 14 = .ok (.iand, 1) := by decide +kernel
theorem dX8_changeRoom_15 : decode cX8_changeRoom 15 = .ok (.ifCond .eq 18, 3) := by decide +kernel
theorem dX8_changeRoom_18 : decode cX8_changeRoom 18 = .ok (.aload_n 0, 1) := by decide +kernel
theorem dX8_changeRoom_19 : decode cX8_changeRoom 19 = .ok (.getfield 30, 3) := by decide +kernel
theorem dX8_changeRoom_22 : decode cX8_changeRoom 22 = .ok (.iload_n 1, 1) := by decide +kernel
theorem dX8_changeRoom_23 : decode cX8_changeRoom 23 = .ok (.iconst 3, 1) := by decide +kernel
theorem dX8_changeRoom_24 : decode cX8_changeRoom 24 = .ok (.imul, 1) := by decide +kernel
theorem dX8_changeRoom_25 : decode cX8_changeRoom 25 = .ok (.iload 4, 2) := by decide +kernel
theorem dX8_changeRoom_27 : decode cX8_changeRoom 27 = .ok (.iadd, 1) := by decide +kernel
theorem dX8_changeRoom_28 : decode cX8_changeRoom 28 = .ok (.dup2, 1) := by decide +kernel
theorem dX8_changeRoom_29 : decode cX8_changeRoom 29 = .ok (.iaload, 1) := by decide +kernel
theorem dX8_changeRoom_30 : decode cX8_changeRoom 30 = .ok (.iload_n 3, 1) := by decide +kernel
theorem dX8_changeRoom_31 : decode cX8_changeRoom 31 = .ok (.iadd, 1) := by decide +kernel
theorem dX8_changeRoom_32 : decode cX8_changeRoom 32 = .ok (.iastore, 1) := by decide +kernel
theorem dX8_changeRoom_33 : decode cX8_changeRoom 33 = .ok (.iinc 4 1, 3) := by decide +kernel
theorem dX8_changeRoom_36 : decode cX8_changeRoom 36 = .ok (.goto (-33), 3) := by decide +kernel
theorem dX8_changeRoom_39 : decode cX8_changeRoom 39 = .ok (.return_, 1) := by decide +kernel
theorem dX8_fillBound_0 : decode cX8_fillBound 0 = .ok (.iconst 0, 1) := by decide +kernel
theorem dX8_fillBound_1 : decode cX8_fillBound 1 = .ok (.istore_n 1, 1) := by decide +kernel
theorem dX8_fillBound_2 : decode cX8_fillBound 2 = .ok (.iload_n 1, 1) := by decide +kernel
theorem dX8_fillBound_3 : decode cX8_fillBound 3 = .ok (.aload_n 0, 1) := by decide +kernel
theorem dX8_fillBound_4 : decode cX8_fillBound 4 = .ok (.getfield 46, 3) := by decide +kernel
theorem dX8_fillBound_7 : decode cX8_fillBound 7 = .ok (.if_icmp .ge 112, 3) := by decide +kernel
theorem dX8_fillBound_10 : decode cX8_fillBound 10 = .ok (.iload_n 1, 1) := by decide +kernel
theorem dX8_fillBound_11 : decode cX8_fillBound 11 = .ok (.bipush 64, 2) := by decide +kernel
theorem dX8_fillBound_13 : decode cX8_fillBound 13 = .ok (.imul, 1) := by decide +kernel
theorem dX8_fillBound_14 : decode cX8_fillBound 14 = .ok (.istore_n 2, 1) := by decide +kernel
theorem dX8_fillBound_15 : decode cX8_fillBound 15 = .ok (.aload_n 0, 1) := by decide +kernel
theorem dX8_fillBound_16 : decode cX8_fillBound 16 = .ok (.getfield 33, 3) := by decide +kernel
theorem dX8_fillBound_19 : decode cX8_fillBound 19 = .ok (.iload_n 2, 1) := by decide +kernel
theorem dX8_fillBound_20 : decode cX8_fillBound 20 = .ok (.iconst 0, 1) := by decide +kernel
theorem dX8_fillBound_21 : decode cX8_fillBound 21 = .ok (.iastore, 1) := by decide +kernel
theorem dX8_fillBound_22 : decode cX8_fillBound 22 = .ok (.iconst 0, 1) := by decide +kernel
theorem dX8_fillBound_23 : decode cX8_fillBound 23 = .ok (.istore_n 3, 1) := by decide +kernel
theorem dX8_fillBound_24 : decode cX8_fillBound 24 = .ok (.iload_n 3, 1) := by decide +kernel
theorem dX8_fillBound_25 : decode cX8_fillBound 25 = .ok (.aload_n 0, 1) := by decide +kernel
theorem dX8_fillBound_26 : decode cX8_fillBound 26 = .ok (.getfield 42, 3) := by decide +kernel
theorem dX8_fillBound_29 : decode cX8_fillBound 29 = .ok (.if_icmp .ge 84, 3) := by decide +kernel
theorem dX8_fillBound_32 : decode cX8_fillBound 32 = .ok (.aload_n 0, 1) := by decide +kernel
theorem dX8_fillBound_33 : decode cX8_fillBound 33 = .ok (.getfield 18, 3) := by decide +kernel
theorem dX8_fillBound_36 : decode cX8_fillBound 36 = .ok (.iload_n 3, 1) := by decide +kernel
theorem dX8_fillBound_37 : decode cX8_fillBound 37 = .ok (.iaload, 1) := by decide +kernel
theorem dX8_fillBound_38 : decode cX8_fillBound 38 = .ok (.iload_n 1, 1) := by decide +kernel
theorem dX8_fillBound_39 : decode cX8_fillBound 39 = .ok (.iconst (-1), 1) := by decide +kernel
theorem dX8_fillBound_40 : decode cX8_fillBound 40 = .ok (.ixor, 1) := by decide +kernel
theorem dX8_fillBound_41 : decode cX8_fillBound 41 = .ok (.iand, 1) := by decide +kernel
theorem dX8_fillBound_42 : decode cX8_fillBound 42 = .ok (.invokestatic 89, 3) := by decide +kernel
theorem dX8_fillBound_45 : decode cX8_fillBound 45 = .ok (.istore 4, 2) := by decide +kernel
theorem dX8_fillBound_47 : decode cX8_fillBound 47 = .ok (.iconst 0, 1) := by decide +kernel
theorem dX8_fillBound_48 : decode cX8_fillBound 48 = .ok (.aload_n 0, 1) := by decide +kernel
theorem dX8_fillBound_49 : decode cX8_fillBound 49 = .ok (.getfield 15, 3) := by decide +kernel
theorem dX8_fillBound_52 : decode cX8_fillBound 52 = .ok (.iload_n 3, 1) := by decide +kernel
theorem dX8_fillBound_53 : decode cX8_fillBound 53 = .ok (.iaload, 1) := by decide +kernel
theorem dX8_fillBound_54 : decode cX8_fillBound 54 = .ok (.iload 4, 2) := by decide +kernel
theorem dX8_fillBound_56 : decode cX8_fillBound 56 = .ok (.isub, 1) := by decide +kernel
theorem dX8_fillBound_57 : decode cX8_fillBound 57 = .ok (.invokestatic 55, 3) := by decide +kernel
theorem dX8_fillBound_60 : decode cX8_fillBound 60 = .ok (.istore 5, 2) := by decide +kernel
theorem dX8_fillBound_62 : decode cX8_fillBound 62 = .ok (.iconst 1, 1) := by decide +kernel
theorem dX8_fillBound_63 : decode cX8_fillBound 63 = .ok (.iload_n 3, 1) := by decide +kernel
theorem dX8_fillBound_64 : decode cX8_fillBound 64 = .ok (.ishl, 1) := by decide +kernel
theorem dX8_fillBound_65 : decode cX8_fillBound 65 = .ok (.istore 6, 2) := by decide +kernel
theorem dX8_fillBound_67 : decode cX8_fillBound 67 = .ok (.iconst 0, 1) := by decide +kernel
theorem dX8_fillBound_68 : decode cX8_fillBound 68 = .ok (.istore 7, 2) := by decide +kernel
theorem dX8_fillBound_70 : decode cX8_fillBound 70 = .ok (.iload 7, 2) := by decide +kernel
theorem dX8_fillBound_72 : decode cX8_fillBound 72 = .ok (.iload 6, 2) := by decide +kernel
theorem dX8_fillBound_74 : decode cX8_fillBound 74 = .ok (.if_icmp .ge 33, 3) := by decide +kernel
theorem dX8_fillBound_77 : decode cX8_fillBound 77 = .ok (.aload_n 0, 1) := by decide +kernel
theorem dX8_fillBound_78 : decode cX8_fillBound 78 = .ok (.getfield 33, 3) := by decide +kernel
theorem dX8_fillBound_81 : decode cX8_fillBound 81 = .ok (.iload_n 2, 1) := by decide +kernel
theorem dX8_fillBound_82 : decode cX8_fillBound 82 = .ok (.iload 6, 2) := by decide +kernel
theorem dX8_fillBound_84 : decode cX8_fillBound 84 = .ok (.iadd, 1) := by decide +kernel
theorem dX8_fillBound_85 : decode cX8_fillBound 85 = .ok (.iload 7, 2) := by decide +kernel
theorem dX8_fillBound_87 : decode cX8_fillBound 87 = .ok (.iadd, 1) := by decide +kernel
theorem dX8_fillBound_88 : decode cX8_fillBound 88 = .ok (.aload_n 0, 1) := by decide +kernel
theorem dX8_fillBound_89 : decode cX8_fillBound 89 = .ok (.getfield 33, 3) := by decide +kernel
theorem dX8_fillBound_92 : decode cX8_fillBound 92 = .ok (.iload_n 2, 1) := by decide +kernel
theorem dX8_fillBound_93 : decode cX8_fillBound 93 = .ok (.iload 7, 2) := by decide +kernel
theorem dX8_fillBound_95 : decode cX8_fillBound 95 = .ok (.iadd, 1) := by decide +kernel
theorem dX8_fillBound_96 : decode cX8_fillBound 96 = .ok (.iaload, 1) := by decide +kernel
theorem dX8_fillBound_97 : decode cX8_fillBound 97 = .ok (.iload 5, 2) := by decide +kernel
theorem dX8_fillBound_99 : decode cX8_fillBound 99 = .ok (.iadd, 1) := by decide +kernel
theorem dX8_fillBound_100 : decode cX8_fillBound 100 = .ok (.iastore, 1) := by decide +kernel
theorem dX8_fillBound_101 : decode cX8_fillBound 101 = .ok (.iinc 7 1, 3) := by decide +kernel
theorem dX8_fillBound_104 : decode cX8_fillBound 104 = .ok (.goto (-34), 3) := by decide +kernel
theorem dX8_fillBound_107 : decode cX8_fillBound 107 = .ok (.iinc 3 1, 3) := by decide +kernel
theorem dX8_fillBound_110 : decode cX8_fillBound 110 = .ok (.goto (-86), 3) := by decide +kernel
theorem dX8_fillBound_113 : decode cX8_fillBound 113 = .ok (.iinc 1 1, 3) := by decide +kernel
theorem dX8_fillBound_116 : decode cX8_fillBound 116 = .ok (.goto (-114), 3) := by decide +kernel
theorem dX8_fillBound_119 : decode cX8_fillBound 119 = .ok (.return_, 1) := by decide +kernel
theorem dX8_leastFrom_0 : decode cX8_leastFrom 0 = .ok (.iconst 1, 1) := by decide +kernel
theorem dX8_leastFrom_1 : decode cX8_leastFrom 1 = .ok (.iload_n 1, 1) := by decide +kernel
theorem dX8_leastFrom_2 : decode cX8_leastFrom 2 = .ok (.ishl, 1) := by decide +kernel
theorem dX8_leastFrom_3 : decode cX8_leastFrom 3 = .ok (.istore_n 2, 1) := by decide +kernel
theorem dX8_leastFrom_4 : decode cX8_leastFrom 4 = .ok (.iconst 1, 1) := by decide +kernel
theorem dX8_leastFrom_5 : decode cX8_leastFrom 5 = .ok (.aload_n 0, 1) := by decide +kernel
theorem dX8_leastFrom_6 : decode cX8_leastFrom 6 = .ok (.getfield 42, 3) := by decide +kernel
theorem dX8_leastFrom_9 : decode cX8_leastFrom 9 = .ok (.ishl, 1) := by decide +kernel
theorem dX8_leastFrom_10 : decode cX8_leastFrom 10 = .ok (.iload_n 2, 1) := by decide +kernel
theorem dX8_leastFrom_11 : decode cX8_leastFrom 11 = .ok (.isub, 1) := by decide +kernel
theorem dX8_leastFrom_12 : decode cX8_leastFrom 12 = .ok (.istore_n 3, 1) := by decide +kernel
theorem dX8_leastFrom_13 : decode cX8_leastFrom 13 = .ok (.aload_n 0, 1) := by decide +kernel
theorem dX8_leastFrom_14 : decode cX8_leastFrom 14 = .ok (.aload_n 0, 1) := by decide +kernel
theorem dX8_leastFrom_15 : decode cX8_leastFrom 15 = .ok (.getfield 39, 3) := by decide +kernel
theorem dX8_leastFrom_18 : decode cX8_leastFrom 18 = .ok (.iload_n 1, 1) := by decide +kernel
theorem dX8_leastFrom_19 : decode cX8_leastFrom 19 = .ok (.iconst 5, 1) := by decide +kernel
theorem dX8_leastFrom_20 : decode cX8_leastFrom 20 = .ok (.invokevirtual 94, 3) := by decide +kernel
theorem dX8_leastFrom_23 : decode cX8_leastFrom 23 = .ok (.iconst 4, 1) := by decide +kernel
theorem dX8_leastFrom_24 : decode cX8_leastFrom 24 = .ok (.istore 4, 2) := by decide +kernel
theorem dX8_leastFrom_26 : decode cX8_leastFrom 26 = .ok (.iload 4, 2) := by decide +kernel
theorem dX8_leastFrom_28 : decode cX8_leastFrom 28 = .ok (.ifCond .lt 58, 3) := by decide +kernel
theorem dX8_leastFrom_31 : decode cX8_leastFrom 31 = .ok (.aload_n 0, 1) := by decide +kernel
theorem dX8_leastFrom_32 : decode cX8_leastFrom 32 = .ok (.aload_n 0, 1) := by decide +kernel
theorem dX8_leastFrom_33 : decode cX8_leastFrom 33 = .ok (.getfield 36, 3) := by decide +kernel
theorem dX8_leastFrom_36 : decode cX8_leastFrom 36 = .ok (.iload_n 1, 1) := by decide +kernel
theorem dX8_leastFrom_37 : decode cX8_leastFrom 37 = .ok (.iload 4, 2) := by decide +kernel
theorem dX8_leastFrom_39 : decode cX8_leastFrom 39 = .ok (.invokevirtual 94, 3) := by decide +kernel
theorem dX8_leastFrom_42 : decode cX8_leastFrom 42 = .ok (.aload_n 0, 1) := by decide +kernel
theorem dX8_leastFrom_43 : decode cX8_leastFrom 43 = .ok (.iload 4, 2) := by decide +kernel
theorem dX8_leastFrom_45 : decode cX8_leastFrom 45 = .ok (.iload_n 2, 1) := by decide +kernel
theorem dX8_leastFrom_46 : decode cX8_leastFrom 46 = .ok (.iload_n 3, 1) := by decide +kernel
theorem dX8_leastFrom_47 : decode cX8_leastFrom 47 = .ok (.invokevirtual 98, 3) := by decide +kernel
theorem dX8_leastFrom_50 : decode cX8_leastFrom 50 = .ok (.iload_n 3, 1) := by decide +kernel
theorem dX8_leastFrom_51 : decode cX8_leastFrom 51 = .ok (.istore 5, 2) := by decide +kernel
theorem dX8_leastFrom_53 : decode cX8_leastFrom 53 = .ok (.iload 5, 2) := by decide +kernel
theorem dX8_leastFrom_55 : decode cX8_leastFrom 55 = .ok (.ifCond .le 25, 3) := by decide +kernel
theorem dX8_leastFrom_58 : decode cX8_leastFrom 58 = .ok (.aload_n 0, 1) := by decide +kernel
theorem dX8_leastFrom_59 : decode cX8_leastFrom 59 = .ok (.getfield 39, 3) := by decide +kernel
theorem dX8_leastFrom_62 : decode cX8_leastFrom 62 = .ok (.iload 5, 2) := by decide +kernel
theorem dX8_leastFrom_64 : decode cX8_leastFrom 64 = .ok (.aload_n 0, 1) := by decide +kernel
theorem dX8_leastFrom_65 : decode cX8_leastFrom 65 = .ok (.iload 5, 2) := by decide +kernel
theorem dX8_leastFrom_67 : decode cX8_leastFrom 67 = .ok (.invokevirtual 101, 3) := by decide +kernel
theorem dX8_leastFrom_70 : decode cX8_leastFrom 70 = .ok (.iastore, 1) := by decide +kernel
theorem dX8_leastFrom_71 : decode cX8_leastFrom 71 = .ok (.iload 5, 2) := by decide +kernel
theorem dX8_leastFrom_73 : decode cX8_leastFrom 73 = .ok (.iload_n 2, 1) := by decide +kernel
theorem dX8_leastFrom_74 : decode cX8_leastFrom 74 = .ok (.isub, 1) := by decide +kernel
theorem dX8_leastFrom_75 : decode cX8_leastFrom 75 = .ok (.istore 5, 2) := by decide +kernel
theorem dX8_leastFrom_77 : decode cX8_leastFrom 77 = .ok (.goto (-24), 3) := by decide +kernel
theorem dX8_leastFrom_80 : decode cX8_leastFrom 80 = .ok (.iinc 4 (-1), 3) := by decide +kernel
theorem dX8_leastFrom_83 : decode cX8_leastFrom 83 = .ok (.goto (-57), 3) := by decide +kernel
theorem dX8_leastFrom_86 : decode cX8_leastFrom 86 = .ok (.aload_n 0, 1) := by decide +kernel
theorem dX8_leastFrom_87 : decode cX8_leastFrom 87 = .ok (.getfield 39, 3) := by decide +kernel
theorem dX8_leastFrom_90 : decode cX8_leastFrom 90 = .ok (.iload_n 3, 1) := by decide +kernel
theorem dX8_leastFrom_91 : decode cX8_leastFrom 91 = .ok (.iaload, 1) := by decide +kernel
theorem dX8_leastFrom_92 : decode cX8_leastFrom 92 = .ok (.ireturn, 1) := by decide +kernel
theorem dX8_leastWithDay_0 : decode cX8_leastWithDay 0 = .ok (.aload_n 0, 1) := by decide +kernel
theorem dX8_leastWithDay_1 : decode cX8_leastWithDay 1 = .ok (.getfield 39, 3) := by decide +kernel
theorem dX8_leastWithDay_4 : decode cX8_leastWithDay 4 = .ok (.iload_n 1, 1) := by decide +kernel
theorem dX8_leastWithDay_5 : decode cX8_leastWithDay 5 = .ok (.iaload, 1) := by decide +kernel
theorem dX8_leastWithDay_6 : decode cX8_leastWithDay 6 = .ok (.istore_n 2, 1) := by decide +kernel
theorem dX8_leastWithDay_7 : decode cX8_leastWithDay 7 = .ok (.iload_n 1, 1) := by decide +kernel
theorem dX8_leastWithDay_8 : decode cX8_leastWithDay 8 = .ok (.istore_n 3, 1) := by decide +kernel
theorem dX8_leastWithDay_9 : decode cX8_leastWithDay 9 = .ok (.iconst 0, 1) := by decide +kernel
theorem dX8_leastWithDay_10 : decode cX8_leastWithDay 10 = .ok (.istore 4, 2) := by decide +kernel
theorem dX8_leastWithDay_12 : decode cX8_leastWithDay 12 = .ok (.iload 4, 2) := by decide +kernel
theorem dX8_leastWithDay_14 : decode cX8_leastWithDay 14 = .ok (.bipush 64, 2) := by decide +kernel
theorem dX8_leastWithDay_16 : decode cX8_leastWithDay 16 = .ok (.if_icmp .ge 39, 3) := by decide +kernel
theorem dX8_leastWithDay_19 : decode cX8_leastWithDay 19 = .ok (.iload_n 3, 1) := by decide +kernel
theorem dX8_leastWithDay_20 : decode cX8_leastWithDay 20 = .ok (.ifCond .eq 35, 3) := by decide +kernel
theorem dX8_leastWithDay_23 : decode cX8_leastWithDay 23 = .ok (.iload_n 2, 1) := by decide +kernel
theorem dX8_leastWithDay_24 : decode cX8_leastWithDay 24 = .ok (.aload_n 0, 1) := by decide +kernel
theorem dX8_leastWithDay_25 : decode cX8_leastWithDay 25 = .ok (.getfield 36, 3) := by decide +kernel
theorem dX8_leastWithDay_28 : decode cX8_leastWithDay 28 = .ok (.iload_n 3, 1) := by decide +kernel
theorem dX8_leastWithDay_29 : decode cX8_leastWithDay 29 = .ok (.iaload, 1) := by decide +kernel
theorem dX8_leastWithDay_30 : decode cX8_leastWithDay 30 = .ok (.aload_n 0, 1) := by decide +kernel
theorem dX8_leastWithDay_31 : decode cX8_leastWithDay 31 = .ok (.getfield 39, 3) := by decide +kernel
theorem dX8_leastWithDay_34 : decode cX8_leastWithDay 34 = .ok (.iload_n 1, 1) := by decide +kernel
theorem dX8_leastWithDay_35 : decode cX8_leastWithDay 35 = .ok (.iload_n 3, 1) := by decide +kernel
theorem dX8_leastWithDay_36 : decode cX8_leastWithDay 36 = .ok (.ixor, 1) := by decide +kernel
theorem dX8_leastWithDay_37 : decode cX8_leastWithDay 37 = .ok (.iaload, 1) := by decide +kernel
theorem dX8_leastWithDay_38 : decode cX8_leastWithDay 38 = .ok (.iadd, 1) := by decide +kernel
theorem dX8_leastWithDay_39 : decode cX8_leastWithDay 39 = .ok (.invokestatic 49, 3) := by decide +kernel
theorem dX8_leastWithDay_42 : decode cX8_leastWithDay 42 = .ok (.istore_n 2, 1) := by decide +kernel
theorem dX8_leastWithDay_43 : decode cX8_leastWithDay 43 = .ok (.iload_n 3, 1) := by decide +kernel
theorem dX8_leastWithDay_44 : decode cX8_leastWithDay 44 = .ok (.iconst 1, 1) := by decide +kernel
theorem dX8_leastWithDay_45 : decode cX8_leastWithDay 45 = .ok (.isub, 1) := by decide +kernel
theorem dX8_leastWithDay_46 : decode cX8_leastWithDay 46 = .ok (.iload_n 1, 1) := by decide +kernel
theorem dX8_leastWithDay_47 : decode cX8_leastWithDay 47 = .ok (.iand, 1) := by decide +kernel
theorem dX8_leastWithDay_48 : decode cX8_leastWithDay 48 = .ok (.istore_n 3, 1) := by decide +kernel
theorem dX8_leastWithDay_49 : decode cX8_leastWithDay 49 = .ok (.iinc 4 1, 3) := by decide +kernel
theorem dX8_leastWithDay_52 : decode cX8_leastWithDay 52 = .ok (.goto (-40), 3) := by decide +kernel
theorem dX8_leastWithDay_55 : decode cX8_leastWithDay 55 = .ok (.iload_n 2, 1) := by decide +kernel
theorem dX8_leastWithDay_56 : decode cX8_leastWithDay 56 = .ok (.ireturn, 1) := by decide +kernel
theorem dX8_fillSums_0 : decode cX8_fillSums 0 = .ok (.aload_n 1, 1) := by decide +kernel
theorem dX8_fillSums_1 : decode cX8_fillSums 1 = .ok (.iconst 0, 1) := by decide +kernel
theorem dX8_fillSums_2 : decode cX8_fillSums 2 = .ok (.iconst 0, 1) := by decide +kernel
theorem dX8_fillSums_3 : decode cX8_fillSums 3 = .ok (.iastore, 1) := by decide +kernel
theorem dX8_fillSums_4 : decode cX8_fillSums 4 = .ok (.iload_n 2, 1) := by decide +kernel
theorem dX8_fillSums_5 : decode cX8_fillSums 5 = .ok (.istore 4, 2) := by decide +kernel
theorem dX8_fillSums_7 : decode cX8_fillSums 7 = .ok (.iload 4, 2) := by decide +kernel
theorem dX8_fillSums_9 : decode cX8_fillSums 9 = .ok (.aload_n 0, 1) := by decide +kernel
theorem dX8_fillSums_10 : decode cX8_fillSums 10 = .ok (.getfield 42, 3) := by decide +kernel
theorem dX8_fillSums_13 : decode cX8_fillSums 13 = .ok (.if_icmp .ge 59, 3) := by decide +kernel
theorem dX8_fillSums_16 : decode cX8_fillSums 16 = .ok (.iconst 1, 1) := by decide +kernel
theorem dX8_fillSums_17 : decode cX8_fillSums 17 = .ok (.iload 4, 2) := by decide +kernel
theorem dX8_fillSums_19 : decode cX8_fillSums 19 = .ok (.ishl, 1) := by decide +kernel
theorem dX8_fillSums_20 : decode cX8_fillSums 20 = .ok (.istore 5, 2) := by decide +kernel
theorem dX8_fillSums_22 : decode cX8_fillSums 22 = .ok (.aload_n 0, 1) := by decide +kernel
theorem dX8_fillSums_23 : decode cX8_fillSums 23 = .ok (.iload 4, 2) := by decide +kernel
theorem dX8_fillSums_25 : decode cX8_fillSums 25 = .ok (.iload_n 3, 1) := by decide +kernel
theorem dX8_fillSums_26 : decode cX8_fillSums 26 = .ok (.invokevirtual 74, 3) := by decide +kernel
theorem dX8_fillSums_29 : decode cX8_fillSums 29 = .ok (.istore 6, 2) := by decide +kernel
theorem dX8_fillSums_31 : decode cX8_fillSums 31 = .ok (.iconst 0, 1) := by decide +kernel
theorem dX8_fillSums_32 : decode cX8_fillSums 32 = .ok (.istore 7, 2) := by decide +kernel
theorem dX8_fillSums_34 : decode cX8_fillSums 34 = .ok (.iload 7, 2) := by decide +kernel
theorem dX8_fillSums_36 : decode cX8_fillSums 36 = .ok (.iload 5, 2) := by decide +kernel
theorem dX8_fillSums_38 : decode cX8_fillSums 38 = .ok (.if_icmp .ge 28, 3) := by decide +kernel
theorem dX8_fillSums_41 : decode cX8_fillSums 41 = .ok (.aload_n 1, 1) := by decide +kernel
theorem dX8_fillSums_42 : decode cX8_fillSums 42 = .ok (.iload 5, 2) := by decide +kernel
theorem dX8_fillSums_44 : decode cX8_fillSums 44 = .ok (.iload 7, 2) := by decide +kernel
theorem dX8_fillSums_46 : decode cX8_fillSums 46 = .ok (.iadd, 1) := by decide +kernel
theorem dX8_fillSums_47 : decode cX8_fillSums 47 = .ok (.aload_n 1, 1) := by decide +kernel
theorem dX8_fillSums_48 : decode cX8_fillSums 48 = .ok (.iload 7, 2) := by decide +kernel
theorem dX8_fillSums_50 : decode cX8_fillSums 50 = .ok (.iaload, 1) := by decide +kernel
theorem dX8_fillSums_51 : decode cX8_fillSums 51 = .ok (.iload 6, 2) := by decide +kernel
theorem dX8_fillSums_53 : decode cX8_fillSums 53 = .ok (.iadd, 1) := by decide +kernel
theorem dX8_fillSums_54 : decode cX8_fillSums 54 = .ok (.iastore, 1) := by decide +kernel
theorem dX8_fillSums_55 : decode cX8_fillSums 55 = .ok (.iload 7, 2) := by decide +kernel
theorem dX8_fillSums_57 : decode cX8_fillSums 57 = .ok (.iconst 1, 1) := by decide +kernel
theorem dX8_fillSums_58 : decode cX8_fillSums 58 = .ok (.iload_n 2, 1) := by decide +kernel
theorem dX8_fillSums_59 : decode cX8_fillSums 59 = .ok (.ishl, 1) := by decide +kernel
theorem dX8_fillSums_60 : decode cX8_fillSums 60 = .ok (.iadd, 1) := by decide +kernel
theorem dX8_fillSums_61 : decode cX8_fillSums 61 = .ok (.istore 7, 2) := by decide +kernel
theorem dX8_fillSums_63 : decode cX8_fillSums 63 = .ok (.goto (-29), 3) := by decide +kernel
theorem dX8_fillSums_66 : decode cX8_fillSums 66 = .ok (.iinc 4 1, 3) := by decide +kernel
theorem dX8_fillSums_69 : decode cX8_fillSums 69 = .ok (.goto (-62), 3) := by decide +kernel
theorem dX8_fillSums_72 : decode cX8_fillSums 72 = .ok (.return_, 1) := by decide +kernel
theorem dX8_barWhatFitsNot_0 : decode cX8_barWhatFitsNot 0 = .ok (.iconst 0, 1) := by decide +kernel
theorem dX8_barWhatFitsNot_1 : decode cX8_barWhatFitsNot 1 = .ok (.istore 4, 2) := by decide +kernel
theorem dX8_barWhatFitsNot_3 : decode cX8_barWhatFitsNot 3 = .ok (.iload 4, 2) := by decide +kernel
theorem dX8_barWhatFitsNot_5 : decode cX8_barWhatFitsNot 5 = .ok (.aload_n 0, 1) := by decide +kernel
theorem dX8_barWhatFitsNot_6 : decode cX8_barWhatFitsNot 6 = .ok (.getfield 46, 3) := by decide +kernel
theorem dX8_barWhatFitsNot_9 : decode cX8_barWhatFitsNot 9 = .ok (.if_icmp .ge 63, 3) := by decide +kernel
theorem dX8_barWhatFitsNot_12 : decode cX8_barWhatFitsNot 12 = .ok (.aload_n 0, 1) := by decide +kernel
theorem dX8_barWhatFitsNot_13 : decode cX8_barWhatFitsNot 13 = .ok (.iload_n 1, 1) := by decide +kernel
theorem dX8_barWhatFitsNot_14 : decode cX8_barWhatFitsNot 14 = .ok (.iload 4, 2) := by decide +kernel
theorem dX8_barWhatFitsNot_16 : decode cX8_barWhatFitsNot 16 = .ok (.invokevirtual 104, 3) := by decide +kernel
theorem dX8_barWhatFitsNot_19 : decode cX8_barWhatFitsNot 19 = .ok (.istore 5, 2) := by decide +kernel
theorem dX8_barWhatFitsNot_21 : decode cX8_barWhatFitsNot 21 = .ok (.iload_n 2, 1) := by decide +kernel
theorem dX8_barWhatFitsNot_22 : decode cX8_barWhatFitsNot 22 = .ok (.istore 6, 2) := by decide +kernel
theorem dX8_barWhatFitsNot_24 : decode cX8_barWhatFitsNot 24 = .ok (.iload 6, 2) := by decide +kernel
theorem dX8_barWhatFitsNot_26 : decode cX8_barWhatFitsNot 26 = .ok (.iload_n 3, 1) := by decide +kernel
theorem dX8_barWhatFitsNot_27 : decode cX8_barWhatFitsNot 27 = .ok (.if_icmp .gt 39, 3) := by decide +kernel
theorem dX8_barWhatFitsNot_30 : decode cX8_barWhatFitsNot 30 = .ok (.aload_n 0, 1) := by decide +kernel
theorem dX8_barWhatFitsNot_31 : decode cX8_barWhatFitsNot 31 = .ok (.getfield 33, 3) := by decide +kernel
theorem dX8_barWhatFitsNot_34 : decode cX8_barWhatFitsNot 34 = .ok (.iload 4, 2) := by decide +kernel
theorem dX8_barWhatFitsNot_36 : decode cX8_barWhatFitsNot 36 = .ok (.bipush 64, 2) := by decide +kernel
theorem dX8_barWhatFitsNot_38 : decode cX8_barWhatFitsNot 38 = .ok (.imul, 1) := by decide +kernel
theorem dX8_barWhatFitsNot_39 : decode cX8_barWhatFitsNot 39 = .ok (.iload 6, 2) := by decide +kernel
theorem dX8_barWhatFitsNot_41 : decode cX8_barWhatFitsNot 41 = .ok (.iadd, 1) := by decide +kernel
theorem dX8_barWhatFitsNot_42 : decode cX8_barWhatFitsNot 42 = .ok (.iaload, 1) := by decide +kernel
theorem dX8_barWhatFitsNot_43 : decode cX8_barWhatFitsNot 43 = .ok (.iload 5, 2) := by decide +kernel
theorem dX8_barWhatFitsNot_45 : decode cX8_barWhatFitsNot 45 = .ok (.if_icmp .le 12, 3) := by decide +kernel
theorem dX8_barWhatFitsNot_48 : decode cX8_barWhatFitsNot 48 = .ok (.aload_n 0, 1) := by decide +kernel
theorem dX8_barWhatFitsNot_49 : decode cX8_barWhatFitsNot 49 = .ok (.getfield 36, 3) := by decide +kernel
theorem dX8_barWhatFitsNot_52 : decode cX8_barWhatFitsNot 52 = .ok (.iload 6, 2) := by decide +kernel
theorem dX8_barWhatFitsNot_54 : decode cX8_barWhatFitsNot 54 = .ok (.ldc 107, 2) := by decide +kernel
theorem dX8_barWhatFitsNot_56 : decode cX8_barWhatFitsNot 56 = .ok (.iastore, 1) := by decide +kernel
theorem dX8_barWhatFitsNot_57 : decode cX8_barWhatFitsNot 57 = .ok (.iload 6, 2) := by decide +kernel
theorem dX8_barWhatFitsNot_59 : decode cX8_barWhatFitsNot 59 = .ok (.iload_n 2, 1) := by decide +kernel
theorem dX8_barWhatFitsNot_60 : decode cX8_barWhatFitsNot 60 = .ok (.iadd, 1) := by decide +kernel
theorem dX8_barWhatFitsNot_61 : decode cX8_barWhatFitsNot 61 = .ok (.istore 6, 2) := by decide +kernel
theorem dX8_barWhatFitsNot_63 : decode cX8_barWhatFitsNot 63 = .ok (.goto (-39), 3) := by decide +kernel
theorem dX8_barWhatFitsNot_66 : decode cX8_barWhatFitsNot 66 = .ok (.iinc 4 1, 3) := by decide +kernel
theorem dX8_barWhatFitsNot_69 : decode cX8_barWhatFitsNot 69 = .ok (.goto (-66), 3) := by decide +kernel
theorem dX8_barWhatFitsNot_72 : decode cX8_barWhatFitsNot 72 = .ok (.return_, 1) := by decide +kernel
theorem dX8_roomOf_0 : decode cX8_roomOf 0 = .ok (.iconst 0, 1) := by decide +kernel
theorem dX8_roomOf_1 : decode cX8_roomOf 1 = .ok (.istore_n 3, 1) := by decide +kernel
theorem dX8_roomOf_2 : decode cX8_roomOf 2 = .ok (.iconst 0, 1) := by decide +kernel
theorem dX8_roomOf_3 : decode cX8_roomOf 3 = .ok (.istore 4, 2) := by decide +kernel
theorem dX8_roomOf_5 : decode cX8_roomOf 5 = .ok (.iload 4, 2) := by decide +kernel
theorem dX8_roomOf_7 : decode cX8_roomOf 7 = .ok (.iconst 3, 1) := by decide +kernel
theorem dX8_roomOf_8 : decode cX8_roomOf 8 = .ok (.if_icmp .ge 32, 3) := by decide +kernel
theorem dX8_roomOf_11 : decode cX8_roomOf 11 = .ok (.iload_n 2, 1) := by decide +kernel
theorem dX8_roomOf_12 : decode cX8_roomOf 12 = .ok (.iload 4, 2) := by decide +kernel
theorem dX8_roomOf_14 : decode cX8_roomOf 14 = .ok (.ishr, 1) := by decide +kernel
theorem dX8_roomOf_15 : decode cX8_roomOf 15 = .ok (.iconst 1, 1) := by decide +kernel
theorem dX8_roomOf_16 : decode cX8_roomOf 16 = .ok (.iand, 1) := by decide +kernel
theorem dX8_roomOf_17 : decode cX8_roomOf 17 = .ok (.ifCond .eq 17, 3) := by decide +kernel
theorem dX8_roomOf_20 : decode cX8_roomOf 20 = .ok (.iload_n 3, 1) := by decide +kernel
theorem dX8_roomOf_21 : decode cX8_roomOf 21 = .ok (.aload_n 0, 1) := by decide +kernel
theorem dX8_roomOf_22 : decode cX8_roomOf 22 = .ok (.getfield 30, 3) := by decide +kernel
theorem dX8_roomOf_25 : decode cX8_roomOf 25 = .ok (.iload_n 1, 1) := by decide +kernel
theorem dX8_roomOf_26 : decode cX8_roomOf 26 = .ok (.iconst 3, 1) := by decide +kernel
theorem dX8_roomOf_27 : decode cX8_roomOf 27 = .ok (.imul, 1) := by decide +kernel
theorem dX8_roomOf_28 : decode cX8_roomOf 28 = .ok (.iload 4, 2) := by decide +kernel
theorem dX8_roomOf_30 : decode cX8_roomOf 30 = .ok (.iadd, 1) := by decide +kernel
theorem dX8_roomOf_31 : decode cX8_roomOf 31 = .ok (.iaload, 1) := by decide +kernel
theorem dX8_roomOf_32 : decode cX8_roomOf 32 = .ok (.iadd, 1) := by decide +kernel
theorem dX8_roomOf_33 : decode cX8_roomOf 33 = .ok (.istore_n 3, 1) := by decide +kernel
theorem dX8_roomOf_34 : decode cX8_roomOf 34 = .ok (.iinc 4 1, 3) := by decide +kernel
theorem dX8_roomOf_37 : decode cX8_roomOf 37 = .ok (.goto (-32), 3) := by decide +kernel
theorem dX8_roomOf_40 : decode cX8_roomOf 40 = .ok (.iload_n 3, 1) := by decide +kernel
theorem dX8_roomOf_41 : decode cX8_roomOf 41 = .ok (.ireturn, 1) := by decide +kernel
theorem dX9_init_0 : decode cX9_init 0 = .ok (.aload_n 0, 1) := by decide +kernel
theorem dX9_init_1 : decode cX9_init 1 = .ok (.invokespecial 3, 3) := by decide +kernel
theorem dX9_init_4 : decode cX9_init 4 = .ok (.aload_n 0, 1) := by decide +kernel
theorem dX9_init_5 : decode cX9_init 5 = .ok (.bipush 8, 2) := by decide +kernel
theorem dX9_init_7 : decode cX9_init 7 = .ok (.newarray .int, 2) := by decide +kernel
theorem dX9_init_9 : decode cX9_init 9 = .ok (.putfield 9, 3) := by decide +kernel
theorem dX9_init_12 : decode cX9_init 12 = .ok (.aload_n 0, 1) := by decide +kernel
theorem dX9_init_13 : decode cX9_init 13 = .ok (.bipush 50, 2) := by decide +kernel
theorem dX9_init_15 : decode cX9_init 15 = .ok (.newarray .boolean, 2) := by decide +kernel
theorem dX9_init_17 : decode cX9_init 17 = .ok (.putfield 13, 3) := by decide +kernel
theorem dX9_init_20 : decode cX9_init 20 = .ok (.aload_n 0, 1) := by decide +kernel
theorem dX9_init_21 : decode cX9_init 21 = .ok (.iconst 4, 1) := by decide +kernel
theorem dX9_init_22 : decode cX9_init 22 = .ok (.newarray .int, 2) := by decide +kernel
theorem dX9_init_24 : decode cX9_init 24 = .ok (.putfield 17, 3) := by decide +kernel
theorem dX9_init_27 : decode cX9_init 27 = .ok (.aload_n 0, 1) := by decide +kernel
theorem dX9_init_28 : decode cX9_init 28 = .ok (.bipush 20, 2) := by decide +kernel
theorem dX9_init_30 : decode cX9_init 30 = .ok (.newarray .int, 2) := by decide +kernel
theorem dX9_init_32 : decode cX9_init 32 = .ok (.putfield 20, 3) := by decide +kernel
theorem dX9_init_35 : decode cX9_init 35 = .ok (.aload_n 0, 1) := by decide +kernel
theorem dX9_init_36 : decode cX9_init 36 = .ok (.iconst 5, 1) := by decide +kernel
theorem dX9_init_37 : decode cX9_init 37 = .ok (.newarray .int, 2) := by decide +kernel
theorem dX9_init_39 : decode cX9_init 39 = .ok (.putfield 23, 3) := by decide +kernel
theorem dX9_init_42 : decode cX9_init 42 = .ok (.aload_n 0, 1) := by decide +kernel
theorem dX9_init_43 : decode cX9_init 43 = .ok (.new 26, 3) := by decide +kernel
theorem dX9_init_46 : decode cX9_init 46 = .ok (.dup, 1) := by decide +kernel
theorem dX9_init_47 : decode cX9_init 47 = .ok (.invokespecial 28, 3) := by decide +kernel
theorem dX9_init_50 : decode cX9_init 50 = .ok (.putfield 29, 3) := by decide +kernel
theorem dX9_init_53 : decode cX9_init 53 = .ok (.aload_n 0, 1) := by decide +kernel
theorem dX9_init_54 : decode cX9_init 54 = .ok (.new 33, 3) := by decide +kernel
theorem dX9_init_57 : decode cX9_init 57 = .ok (.dup, 1) := by decide +kernel
theorem dX9_init_58 : decode cX9_init 58 = .ok (.invokespecial 35, 3) := by decide +kernel
theorem dX9_init_61 : decode cX9_init 61 = .ok (.putfield 36, 3) := by decide +kernel
theorem dX9_init_64 : decode cX9_init 64 = .ok (.aload_n 0, 1) := by decide +kernel
theorem dX9_init_65 : decode cX9_init 65 = .ok (.new 40, 3) := by decide +kernel
theorem dX9_init_68 : decode cX9_init 68 = .ok (.dup, 1) := by decide +kernel
theorem dX9_init_69 : decode cX9_init 69 = .ok (.aload_n 0, 1) := by decide +kernel
theorem dX9_init_70 : decode cX9_init 70 = .ok (.getfield 29, 3) := by decide +kernel
theorem dX9_init_73 : decode cX9_init 73 = .ok (.invokespecial 42, 3) := by decide +kernel
theorem dX9_init_76 : decode cX9_init 76 = .ok (.putfield 45, 3) := by decide +kernel
theorem dX9_init_79 : decode cX9_init 79 = .ok (.aload_n 0, 1) := by decide +kernel
theorem dX9_init_80 : decode cX9_init 80 = .ok (.new 49, 3) := by decide +kernel
theorem dX9_init_83 : decode cX9_init 83 = .ok (.dup, 1) := by decide +kernel
theorem dX9_init_84 : decode cX9_init 84 = .ok (.invokespecial 51, 3) := by decide +kernel
theorem dX9_init_87 : decode cX9_init 87 = .ok (.putfield 52, 3) := by decide +kernel
theorem dX9_init_90 : decode cX9_init 90 = .ok (.aload_n 0, 1) := by decide +kernel
theorem dX9_init_91 : decode cX9_init 91 = .ok (.new 56, 3) := by decide +kernel
theorem dX9_init_94 : decode cX9_init 94 = .ok (.dup, 1) := by decide +kernel
theorem dX9_init_95 : decode cX9_init 95 = .ok (.invokespecial 58, 3) := by decide +kernel
theorem dX9_init_98 : decode cX9_init 98 = .ok (.putfield 59, 3) := by decide +kernel
theorem dX9_init_101 : decode cX9_init 101 = .ok (.aload_n 0, 1) := by decide +kernel
theorem dX9_init_102 : decode cX9_init 102 = .ok (.new 63, 3) := by decide +kernel
theorem dX9_init_105 : decode cX9_init 105 = .ok (.dup, 1) := by decide +kernel
theorem dX9_init_106 : decode cX9_init 106 = .ok (.aload_n 0, 1) := by decide +kernel
theorem dX9_init_107 : decode cX9_init 107 = .ok (.getfield 45, 3) := by decide +kernel
theorem dX9_init_110 : decode cX9_init 110 = .ok (.invokespecial 65, 3) := by decide +kernel
theorem dX9_init_113 : decode cX9_init 113 = .ok (.putfield 68, 3) := by decide +kernel
theorem dX9_init_116 : decode cX9_init 116 = .ok (.aload_n 0, 1) := by decide +kernel
theorem dX9_init_117 : decode cX9_init 117 = .ok (.new 72, 3) := by decide +kernel
theorem dX9_init_120 : decode cX9_init 120 = .ok (.dup, 1) := by decide +kernel
theorem dX9_init_121 : decode cX9_init 121 = .ok (.aload_n 0, 1) := by decide +kernel
theorem dX9_init_122 : decode cX9_init 122 = .ok (.getfield 36, 3) := by decide +kernel
theorem dX9_init_125 : decode cX9_init 125 = .ok (.invokespecial 74, 3) := by decide +kernel
theorem dX9_init_128 : decode cX9_init 128 = .ok (.putfield 77, 3) := by decide +kernel
theorem dX9_init_131 : decode cX9_init 131 = .ok (.aload_n 0, 1) := by decide +kernel
theorem dX9_init_132 : decode cX9_init 132 = .ok (.new 81, 3) := by decide +kernel
theorem dX9_init_135 : decode cX9_init 135 = .ok (.dup, 1) := by decide +kernel
theorem dX9_init_136 : decode cX9_init 136 = .ok (.invokespecial 83, 3) := by decide +kernel
theorem dX9_init_139 : decode cX9_init 139 = .ok (.putfield 84, 3) := by decide +kernel
theorem dX9_init_142 : decode cX9_init 142 = .ok (.aload_n 0, 1) := by decide +kernel
theorem dX9_init_143 : decode cX9_init 143 = .ok (.new 88, 3) := by decide +kernel
theorem dX9_init_146 : decode cX9_init 146 = .ok (.dup, 1) := by decide +kernel
theorem dX9_init_147 : decode cX9_init 147 = .ok (.invokespecial 90, 3) := by decide +kernel
theorem dX9_init_150 : decode cX9_init 150 = .ok (.putfield 91, 3) := by decide +kernel
theorem dX9_init_153 : decode cX9_init 153 = .ok (.aload_n 0, 1) := by decide +kernel
theorem dX9_init_154 : decode cX9_init 154 = .ok (.iconst 0, 1) := by decide +kernel
theorem dX9_init_155 : decode cX9_init 155 = .ok (.putfield 95, 3) := by decide +kernel
theorem dX9_init_158 : decode cX9_init 158 = .ok (.aload_n 0, 1) := by decide +kernel
theorem dX9_init_159 : decode cX9_init 159 = .ok (.iconst 2, 1) := by decide +kernel
theorem dX9_init_160 : decode cX9_init 160 = .ok (.putfield 99, 3) := by decide +kernel
theorem dX9_init_163 : decode cX9_init 163 = .ok (.aload_n 0, 1) := by decide +kernel
theorem dX9_init_164 : decode cX9_init 164 = .ok (.getfield 17, 3) := by decide +kernel
theorem dX9_init_167 : decode cX9_init 167 = .ok (.bipush 10, 2) := by decide +kernel
theorem dX9_init_169 : decode cX9_init 169 = .ok (.invokestatic 102, 3) := by decide +kernel
theorem dX9_init_172 : decode cX9_init 172 = .ok (.return_, 1) := by decide +kernel
theorem dX9_days_0 : decode cX9_days 0 = .ok (.iload_n 1, 1) := by decide +kernel
theorem dX9_days_1 : decode cX9_days 1 = .ok (.iconst 1, 1) := by decide +kernel
theorem dX9_days_2 : decode cX9_days 2 = .ok (.if_icmp .ge 10, 3) := by decide +kernel
theorem dX9_days_5 : decode cX9_days 5 = .ok (.aload_n 0, 1) := by decide +kernel
theorem dX9_days_6 : decode cX9_days 6 = .ok (.bipush (-4), 2) := by decide +kernel
theorem dX9_days_8 : decode cX9_days 8 = .ok (.invokevirtual 108, 3) := by decide +kernel
theorem dX9_days_11 : decode cX9_days 11 = .ok (.ireturn, 1) := by decide +kernel
theorem dX9_days_12 : decode cX9_days 12 = .ok (.iload_n 1, 1) := by decide +kernel
theorem dX9_days_13 : decode cX9_days 13 = .ok (.sipush 1500, 3) := by decide +kernel
theorem dX9_days_16 : decode cX9_days 16 = .ok (.aload_n 0, 1) := by decide +kernel
theorem dX9_days_17 : decode cX9_days 17 = .ok (.getfield 95, 3) := by decide +kernel
theorem dX9_days_20 : decode cX9_days 20 = .ok (.isub, 1) := by decide +kernel
theorem dX9_days_21 : decode cX9_days 21 = .ok (.if_icmp .le 10, 3) := by decide +kernel
theorem dX9_days_24 : decode cX9_days 24 = .ok (.aload_n 0, 1) := by decide +kernel
theorem dX9_days_25 : decode cX9_days 25 = .ok (.bipush (-6), 2) := by decide +kernel
theorem dX9_days_27 : decode cX9_days 27 = .ok (.invokevirtual 108, 3) := by decide +kernel
theorem dX9_days_30 : decode cX9_days 30 = .ok (.ireturn, 1) := by decide +kernel
theorem dX9_days_31 : decode cX9_days 31 = .ok (.aload_n 0, 1) := by decide +kernel
theorem dX9_days_32 : decode cX9_days 32 = .ok (.dup, 1) := by decide +kernel
theorem dX9_days_33 : decode cX9_days 33 = .ok (.getfield 95, 3) := by decide +kernel
theorem dX9_days_36 : decode cX9_days 36 = .ok (.iload_n 1, 1) := by decide +kernel
theorem dX9_days_37 : decode cX9_days 37 = .ok (.iadd, 1) := by decide +kernel
theorem dX9_days_38 : decode cX9_days 38 = .ok (.putfield 95, 3) := by decide +kernel
theorem dX9_days_41 : decode cX9_days 41 = .ok (.aload_n 0, 1) := by decide +kernel
theorem dX9_days_42 : decode cX9_days 42 = .ok (.getfield 95, 3) := by decide +kernel
theorem dX9_days_45 : decode cX9_days 45 = .ok (.ireturn, 1) := by decide +kernel
theorem dX9_code_0 : decode cX9_code 0 = .ok (.iload_n 1, 1) := by decide +kernel
theorem dX9_code_1 : decode cX9_code 1 = .ok (.iconst 5, 1) := by decide +kernel
theorem dX9_code_2 : decode cX9_code 2 = .ok (.invokestatic 112, 3) := by decide +kernel
theorem dX9_code_5 : decode cX9_code 5 = .ok (.ifCond .ne 9, 3) := by decide +kernel
theorem dX9_code_8 : decode cX9_code 8 = .ok (.aload_n 0, 1) := by decide +kernel
theorem dX9_code_9 : decode cX9_code 9 = .ok (.iconst (-1), 1) := by decide +kernel
theorem dX9_code_10 : decode cX9_code 10 = .ok (.invokevirtual 108, 3) := by decide +kernel
theorem dX9_code_13 : decode cX9_code 13 = .ok (.ireturn, 1) := by decide +kernel
theorem dX9_code_14 : decode cX9_code 14 = .ok (.iload_n 2, 1) := by decide +kernel
theorem dX9_code_15 : decode cX9_code 15 = .ok (.ifCond .lt 11, 3) := by decide +kernel
theorem dX9_code_18 : decode cX9_code 18 = .ok (.iload_n 3, 1) := by decide +kernel
theorem dX9_code_19 : decode cX9_code 19 = .ok (.aload_n 0, 1) := by decide +kernel
theorem dX9_code_20 : decode cX9_code 20 = .ok (.getfield 95, 3) := by decide +kernel
theorem dX9_code_23 : decode cX9_code 23 = .ok (.if_icmp .ge 10, 3) := by decide +kernel
theorem dX9_code_26 : decode cX9_code 26 = .ok (.aload_n 0, 1) := by decide +kernel
theorem dX9_code_27 : decode cX9_code 27 = .ok (.bipush (-4), 2) := by decide +kernel
theorem dX9_code_29 : decode cX9_code 29 = .ok (.invokevirtual 108, 3) := by decide +kernel
theorem dX9_code_32 : decode cX9_code 32 = .ok (.ireturn, 1) := by decide +kernel
theorem dX9_code_33 : decode cX9_code 33 = .ok (.iload_n 2, 1) := by decide +kernel
theorem dX9_code_34 : decode cX9_code 34 = .ok (.bipush 50, 2) := by decide +kernel
theorem dX9_code_36 : decode cX9_code 36 = .ok (.if_icmp .gt 20, 3) := by decide +kernel
theorem dX9_code_39 : decode cX9_code 39 = .ok (.iload_n 3, 1) := by decide +kernel
theorem dX9_code_40 : decode cX9_code 40 = .ok (.sipush 1500, 3) := by decide +kernel
theorem dX9_code_43 : decode cX9_code 43 = .ok (.if_icmp .gt 13, 3) := by decide +kernel
theorem dX9_code_46 : decode cX9_code 46 = .ok (.aload_n 0, 1) := by decide +kernel
theorem dX9_code_47 : decode cX9_code 47 = .ok (.getfield 29, 3) := by decide +kernel
theorem dX9_code_50 : decode cX9_code 50 = .ok (.invokevirtual 116, 3) := by decide +kernel
theorem dX9_code_53 : decode cX9_code 53 = .ok (.ifCond .eq 10, 3) := by decide +kernel
theorem dX9_code_56 : decode cX9_code 56 = .ok (.aload_n 0, 1) := by decide +kernel
theorem dX9_code_57 : decode cX9_code 57 = .ok (.bipush (-6), 2) := by decide +kernel
theorem dX9_code_59 : decode cX9_code 59 = .ok (.invokevirtual 108, 3) := by decide +kernel
theorem dX9_code_62 : decode cX9_code 62 = .ok (.ireturn, 1) := by decide +kernel
theorem dX9_code_63 : decode cX9_code 63 = .ok (.aload_n 0, 1) := by decide +kernel
theorem dX9_code_64 : decode cX9_code 64 = .ok (.getfield 29, 3) := by decide +kernel
theorem dX9_code_67 : decode cX9_code 67 = .ok (.iload_n 1, 1) := by decide +kernel
theorem dX9_code_68 : decode cX9_code 68 = .ok (.iload_n 2, 1) := by decide +kernel
theorem dX9_code_69 : decode cX9_code 69 = .ok (.iload_n 3, 1) := by decide +kernel
theorem dX9_code_70 : decode cX9_code 70 = .ok (.invokevirtual 120, 3) := by decide +kernel
theorem dX9_code_73 : decode cX9_code 73 = .ok (.ireturn, 1) := by decide +kernel
theorem dX9_turn_0 : decode cX9_turn 0 = .ok (.aload_n 0, 1) := by decide +kernel
theorem dX9_turn_1 : decode cX9_turn 1 = .ok (.getfield 29, 3) := by decide +kernel
theorem dX9_turn_4 : decode cX9_turn 4 = .ok (.iload_n 1, 1) := by decide +kernel
theorem dX9_turn_5 : decode cX9_turn 5 = .ok (.invokevirtual 124, 3) := by decide +kernel
theorem dX9_turn_8 : decode cX9_turn 8 = .ok (.ifCond .eq 14, 3) := by decide +kernel
theorem dX9_turn_11 : decode cX9_turn 11 = .ok (.aload_n 0, 1) := by decide +kernel
theorem dX9_turn_12 : decode cX9_turn 12 = .ok (.getfield 29, 3) := by decide +kernel
theorem dX9_turn_15 : decode cX9_turn 15 = .ok (.iload_n 2, 1) := by decide +kernel
theorem dX9_turn_16 : decode cX9_turn 16 = .ok (.invokevirtual 124, 3) := by decide +kernel
theorem dX9_turn_19 : decode cX9_turn 19 = .ok (.ifCond .ne 9, 3) := by decide +kernel
theorem dX9_turn_22 : decode cX9_turn 22 = .ok (.aload_n 0, 1) := by decide +kernel
theorem dX9_turn_23 : decode cX9_turn 23 = .ok (.iconst (-1), 1) := by decide +kernel
theorem dX9_turn_24 : decode cX9_turn 24 = .ok (.invokevirtual 108, 3) := by decide +kernel
theorem dX9_turn_27 : decode cX9_turn 27 = .ok (.ireturn, 1) := by decide +kernel
theorem dX9_turn_28 : decode cX9_turn 28 = .ok (.aload_n 0, 1) := by decide +kernel
theorem dX9_turn_29 : decode cX9_turn 29 = .ok (.getfield 29, 3) := by decide +kernel
theorem dX9_turn_32 : decode cX9_turn 32 = .ok (.iload_n 1, 1) := by decide +kernel
theorem dX9_turn_33 : decode cX9_turn 33 = .ok (.invokevirtual 128, 3) := by decide +kernel
theorem dX9_turn_36 : decode cX9_turn 36 = .ok (.ifCond .ne 8, 3) := by decide +kernel
theorem dX9_turn_39 : decode cX9_turn 39 = .ok (.iload_n 2, 1) := by decide +kernel
theorem dX9_turn_40 : decode cX9_turn 40 = .ok (.iload_n 1, 1) := by decide +kernel
theorem dX9_turn_41 : decode cX9_turn 41 = .ok (.if_icmp .gt 10, 3) := by decide +kernel
theorem dX9_turn_44 : decode cX9_turn 44 = .ok (.aload_n 0, 1) := by decide +kernel
theorem dX9_turn_45 : decode cX9_turn 45 = .ok (.bipush (-3), 2) := by decide +kernel
theorem dX9_turn_47 : decode cX9_turn 47 = .ok (.invokevirtual 108, 3) := by decide +kernel
theorem dX9_turn_50 : decode cX9_turn 50 = .ok (.ireturn, 1) := by decide +kernel
theorem dX9_turn_51 : decode cX9_turn 51 = .ok (.iload_n 3, 1) := by decide +kernel
theorem dX9_turn_52 : decode cX9_turn 52 = .ok (.aload_n 0, 1) := by decide +kernel
theorem dX9_turn_53 : decode cX9_turn 53 = .ok (.getfield 95, 3) := by decide +kernel
theorem dX9_turn_56 : decode cX9_turn 56 = .ok (.if_icmp .ge 10, 3) := by decide +kernel
theorem dX9_turn_59 : decode cX9_turn 59 = .ok (.aload_n 0, 1) := by decide +kernel
theorem dX9_turn_60 : decode cX9_turn 60 = .ok (.bipush (-4), 2) := by decide +kernel
theorem dX9_turn_62 : decode cX9_turn 62 = .ok (.invokevirtual 108, 3) := by decide +kernel
theorem dX9_turn_65 : decode cX9_turn 65 = .ok (.ireturn, 1) := by decide +kernel
theorem dX9_turn_66 : decode cX9_turn 66 = .ok (.iload_n 3, 1) := by decide +kernel
theorem dX9_turn_67 : decode cX9_turn 67 = .ok (.sipush 1500, 3) := by decide +kernel
theorem dX9_turn_70 : decode cX9_turn 70 = .ok (.if_icmp .le 10, 3) := by decide +kernel
theorem dX9_turn_73 : decode cX9_turn 73 = .ok (.aload_n 0, 1) := by decide +kernel
theorem dX9_turn_74 : decode cX9_turn 74 = .ok (.bipush (-6), 2) := by decide +kernel
theorem dX9_turn_76 : decode cX9_turn 76 = .ok (.invokevirtual 108, 3) := by decide +kernel
theorem dX9_turn_79 : decode cX9_turn 79 = .ok (.ireturn, 1) := by decide +kernel
theorem dX9_turn_80 : decode cX9_turn 80 = .ok (.aload_n 0, 1) := by decide +kernel
theorem dX9_turn_81 : decode cX9_turn 81 = .ok (.getfield 29, 3) := by decide +kernel
theorem dX9_turn_84 : decode cX9_turn 84 = .ok (.iload_n 1, 1) := by decide +kernel
theorem dX9_turn_85 : decode cX9_turn 85 = .ok (.iload_n 2, 1) := by decide +kernel
theorem dX9_turn_86 : decode cX9_turn 86 = .ok (.iload_n 3, 1) := by decide +kernel
theorem dX9_turn_87 : decode cX9_turn 87 = .ok (.invokevirtual 131, 3) := by decide +kernel
theorem dX9_turn_90 : decode cX9_turn 90 = .ok (.iconst 1, 1) := by decide +kernel
theorem dX9_turn_91 : decode cX9_turn 91 = .ok (.ireturn, 1) := by decide +kernel
theorem dX9_stands_0 : decode cX9_stands 0 = .ok (.aload_n 0, 1) := by decide +kernel
theorem dX9_stands_1 : decode cX9_stands 1 = .ok (.getfield 29, 3) := by decide +kernel
theorem dX9_stands_4 : decode cX9_stands 4 = .ok (.iload_n 1, 1) := by decide +kernel
theorem dX9_stands_5 : decode cX9_stands 5 = .ok (.invokevirtual 124, 3) := by decide +kernel
theorem dX9_stands_8 : decode cX9_stands 8 = .ok (.ifCond .ne 9, 3) := by decide +kernel
theorem dX9_stands_11 : decode cX9_stands 11 = .ok (.aload_n 0, 1) := by decide +kernel
theorem dX9_stands_12 : decode cX9_stands 12 = .ok (.iconst (-1), 1) := by decide +kernel
theorem dX9_stands_13 : decode cX9_stands 13 = .ok (.invokevirtual 108, 3) := by decide +kernel
theorem dX9_stands_16 : decode cX9_stands 16 = .ok (.ireturn, 1) := by decide +kernel
theorem dX9_stands_17 : decode cX9_stands 17 = .ok (.iload_n 2, 1) := by decide +kernel
theorem dX9_stands_18 : decode cX9_stands 18 = .ok (.ifCond .ge 10, 3) := by decide +kernel
theorem dX9_stands_21 : decode cX9_stands 21 = .ok (.aload_n 0, 1) := by decide +kernel
theorem dX9_stands_22 : decode cX9_stands 22 = .ok (.bipush (-4), 2) := by decide +kernel
theorem dX9_stands_24 : decode cX9_stands 24 = .ok (.invokevirtual 108, 3) := by decide +kernel
theorem dX9_stands_27 : decode cX9_stands 27 = .ok (.ireturn, 1) := by decide +kernel
theorem dX9_stands_28 : decode cX9_stands 28 = .ok (.iload_n 2, 1) := by decide +kernel
theorem dX9_stands_29 : decode cX9_stands 29 = .ok (.sipush 1500, 3) := by decide +kernel
theorem dX9_stands_32 : decode cX9_stands 32 = .ok (.if_icmp .le 10, 3) := by decide +kernel
theorem dX9_stands_35 : decode cX9_stands 35 = .ok (.aload_n 0, 1) := by decide +kernel
theorem dX9_stands_36 : decode cX9_stands 36 = .ok (.bipush (-6), 2) := by decide +kernel
theorem dX9_stands_38 : decode cX9_stands 38 = .ok (.invokevirtual 108, 3) := by decide +kernel
theorem dX9_stands_41 : decode cX9_stands 41 = .ok (.ireturn, 1) := by decide +kernel
theorem dX9_stands_42 : decode cX9_stands 42 = .ok (.aload_n 0, 1) := by decide +kernel
theorem dX9_stands_43 : decode cX9_stands 43 = .ok (.getfield 29, 3) := by decide +kernel
theorem dX9_stands_46 : decode cX9_stands 46 = .ok (.iload_n 1, 1) := by decide +kernel
theorem dX9_stands_47 : decode cX9_stands 47 = .ok (.iload_n 2, 1) := by decide +kernel
theorem dX9_stands_48 : decode cX9_stands 48 = .ok (.invokevirtual 135, 3) := by decide +kernel
theorem dX9_stands_51 : decode cX9_stands 51 = .ok (.ireturn, 1) := by decide +kernel
theorem dX9_most_0 : decode cX9_most 0 = .ok (.iload_n 1, 1) := by decide +kernel
theorem dX9_most_1 : decode cX9_most 1 = .ok (.iconst 5, 1) := by decide +kernel
theorem dX9_most_2 : decode cX9_most 2 = .ok (.invokestatic 112, 3) := by decide +kernel
theorem dX9_most_5 : decode cX9_most 5 = .ok (.ifCond .ne 9, 3) := by decide +kernel
theorem dX9_most_8 : decode cX9_most 8 = .ok (.aload_n 0, 1) := by decide +kernel
theorem dX9_most_9 : decode cX9_most 9 = .ok (.iconst (-1), 1) := by decide +kernel
theorem dX9_most_10 : decode cX9_most 10 = .ok (.invokevirtual 108, 3) := by decide +kernel
theorem dX9_most_13 : decode cX9_most 13 = .ok (.ireturn, 1) := by decide +kernel
theorem dX9_most_14 : decode cX9_most 14 = .ok (.iload_n 2, 1) := by decide +kernel
theorem dX9_most_15 : decode cX9_most 15 = .ok (.ifCond .ge 10, 3) := by decide +kernel
theorem dX9_most_18 : decode cX9_most 18 = .ok (.aload_n 0, 1) := by decide +kernel
theorem dX9_most_19 : decode cX9_most 19 = .ok (.bipush (-4), 2) := by decide +kernel
theorem dX9_most_21 : decode cX9_most 21 = .ok (.invokevirtual 108, 3) := by decide +kernel
theorem dX9_most_24 : decode cX9_most 24 = .ok (.ireturn, 1) := by decide +kernel
theorem dX9_most_25 : decode cX9_most 25 = .ok (.iload_n 2, 1) := by decide +kernel
theorem dX9_most_26 : decode cX9_most 26 = .ok (.sipush 200, 3) := by decide +kernel
theorem dX9_most_29 : decode cX9_most 29 = .ok (.if_icmp .le 10, 3) := by decide +kernel
theorem dX9_most_32 : decode cX9_most 32 = .ok (.aload_n 0, 1) := by decide +kernel
theorem dX9_most_33 : decode cX9_most 33 = .ok (.bipush (-6), 2) := by decide +kernel
theorem dX9_most_35 : decode cX9_most 35 = .ok (.invokevirtual 108, 3) := by decide +kernel
theorem dX9_most_38 : decode cX9_most 38 = .ok (.ireturn, 1) := by decide +kernel
theorem dX9_most_39 : decode cX9_most 39 = .ok (.aload_n 0, 1) := by decide +kernel
theorem dX9_most_40 : decode cX9_most 40 = .ok (.getfield 29, 3) := by decide +kernel
theorem dX9_most_43 : decode cX9_most 43 = .ok (.iload_n 1, 1) := by decide +kernel
theorem dX9_most_44 : decode cX9_most 44 = .ok (.iload_n 2, 1) := by decide +kernel
theorem dX9_most_45 : decode cX9_most 45 = .ok (.invokevirtual 139, 3) := by decide +kernel
theorem dX9_most_48 : decode cX9_most 48 = .ok (.ireturn, 1) := by decide +kernel
theorem dX9_kitchen_0 : decode cX9_kitchen 0 = .ok (.iload_n 1, 1) := by decide +kernel
theorem dX9_kitchen_1 : decode cX9_kitchen 1 = .ok (.iconst 4, 1) := by decide +kernel
theorem dX9_kitchen_2 : decode cX9_kitchen 2 = .ok (.invokestatic 112, 3) := by decide +kernel
theorem dX9_kitchen_5 : decode cX9_kitchen 5 = .ok (.ifCond .ne 10, 3) := by decide +kernel
theorem dX9_kitchen_8 : decode cX9_kitchen 8 = .ok (.aload_n 0, 1) := by decide +kernel
theorem dX9_kitchen_9 : decode cX9_kitchen 9 = .ok (.bipush (-2), 2) := by decide +kernel
theorem dX9_kitchen_11 : decode cX9_kitchen 11 = .ok (.invokevirtual 108, 3) := by decide +kernel
theorem dX9_kitchen_14 : decode cX9_kitchen 14 = .ok (.ireturn, 1) := by decide +kernel
theorem dX9_kitchen_15 : decode cX9_kitchen 15 = .ok (.iload_n 2, 1) := by decide +kernel
theorem dX9_kitchen_16 : decode cX9_kitchen 16 = .ok (.bipush 6, 2) := by decide +kernel
theorem dX9_kitchen_18 : decode cX9_kitchen 18 = .ok (.invokestatic 112, 3) := by decide +kernel
theorem dX9_kitchen_21 : decode cX9_kitchen 21 = .ok (.ifCond .eq 13, 3) := by decide +kernel
theorem dX9_kitchen_24 : decode cX9_kitchen 24 = .ok (.iload 4, 2) := by decide +kernel
theorem dX9_kitchen_26 : decode cX9_kitchen 26 = .ok (.bipush 10, 2) := by decide +kernel
theorem dX9_kitchen_28 : decode cX9_kitchen 28 = .ok (.invokestatic 112, 3) := by decide +kernel
theorem dX9_kitchen_31 : decode cX9_kitchen 31 = .ok (.ifCond .ne 9, 3) := by decide +kernel
theorem dX9_kitchen_34 : decode cX9_kitchen 34 = .ok (.aload_n 0, 1) := by decide +kernel
theorem dX9_kitchen_35 : decode cX9_kitchen 35 = .ok (.iconst (-1), 1) := by decide +kernel
theorem dX9_kitchen_36 : decode cX9_kitchen 36 = .ok (.invokevirtual 108, 3) := by decide +kernel
theorem dX9_kitchen_39 : decode cX9_kitchen 39 = .ok (.ireturn, 1) := by decide +kernel
theorem dX9_kitchen_40 : decode cX9_kitchen 40 = .ok (.iload_n 3, 1) := by decide +kernel
theorem dX9_kitchen_41 : decode cX9_kitchen 41 = .ok (.iconst 1, 1) := by decide +kernel
theorem dX9_kitchen_42 : decode cX9_kitchen 42 = .ok (.if_icmp .lt 8, 3) := by decide +kernel
theorem dX9_kitchen_45 : decode cX9_kitchen 45 = .ok (.iload 5, 2) := by decide +kernel
theorem dX9_kitchen_47 : decode cX9_kitchen 47 = .ok (.ifCond .ge 10, 3) := by decide +kernel
theorem dX9_kitchen_50 : decode cX9_kitchen 50 = .ok (.aload_n 0, 1) := by decide +kernel
theorem dX9_kitchen_51 : decode cX9_kitchen 51 = .ok (.bipush (-4), 2) := by decide +kernel
theorem dX9_kitchen_53 : decode cX9_kitchen 53 = .ok (.invokevirtual 108, 3) := by decide +kernel
theorem dX9_kitchen_56 : decode cX9_kitchen 56 = .ok (.ireturn, 1) := by decide +kernel
theorem dX9_kitchen_57 : decode cX9_kitchen 57 = .ok (.iload_n 3, 1) := by decide +kernel
theorem dX9_kitchen_58 : decode cX9_kitchen 58 = .ok (.sipush 999, 3) := by decide +kernel
theorem dX9_kitchen_61 : decode cX9_kitchen 61 = .ok (.if_icmp .gt 21, 3) := by decide +kernel
theorem dX9_kitchen_64 : decode cX9_kitchen 64 = .ok (.iload 5, 2) := by decide +kernel
theorem dX9_kitchen_66 : decode cX9_kitchen 66 = .ok (.sipush 255, 3) := by decide +kernel
theorem dX9_kitchen_69 : decode cX9_kitchen 69 = .ok (.if_icmp .gt 13, 3) := by decide +kernel
theorem dX9_kitchen_72 : decode cX9_kitchen 72 = .ok (.aload_n 0, 1) := by decide +kernel
theorem dX9_kitchen_73 : decode cX9_kitchen 73 = .ok (.getfield 36, 3) := by decide +kernel
theorem dX9_kitchen_76 : decode cX9_kitchen 76 = .ok (.invokevirtual 142, 3) := by decide +kernel
theorem dX9_kitchen_79 : decode cX9_kitchen 79 = .ok (.ifCond .eq 10, 3) := by decide +kernel
theorem dX9_kitchen_82 : decode cX9_kitchen 82 = .ok (.aload_n 0, 1) := by decide +kernel
theorem dX9_kitchen_83 : decode cX9_kitchen 83 = .ok (.bipush (-6), 2) := by decide +kernel
theorem dX9_kitchen_85 : decode cX9_kitchen 85 = .ok (.invokevirtual 108, 3) := by decide +kernel
theorem dX9_kitchen_88 : decode cX9_kitchen 88 = .ok (.ireturn, 1) := by decide +kernel
theorem dX9_kitchen_89 : decode cX9_kitchen 89 = .ok (.aload_n 0, 1) := by decide +kernel
theorem dX9_kitchen_90 : decode cX9_kitchen 90 = .ok (.getfield 36, 3) := by decide +kernel
theorem dX9_kitchen_93 : decode cX9_kitchen 93 = .ok (.iload_n 1, 1) := by decide +kernel
theorem dX9_kitchen_94 : decode cX9_kitchen 94 = .ok (.iload_n 2, 1) := by decide +kernel
theorem dX9_kitchen_95 : decode cX9_kitchen 95 = .ok (.iload_n 3, 1) := by decide +kernel
theorem dX9_kitchen_96 : decode cX9_kitchen 96 = .ok (.iload 4, 2) := by decide +kernel
theorem dX9_kitchen_98 : decode cX9_kitchen 98 = .ok (.iload 5, 2) := by decide +kernel
theorem dX9_kitchen_100 : decode cX9_kitchen 100 = .ok (.invokevirtual 143, 3) := by decide +kernel
theorem dX9_kitchen_103 : decode cX9_kitchen 103 = .ok (.ireturn, 1) := by decide +kernel
theorem dX9_hard_0 : decode cX9_hard 0 = .ok (.aload_n 0, 1) := by decide +kernel
theorem dX9_hard_1 : decode cX9_hard 1 = .ok (.getfield 36, 3) := by decide +kernel
theorem dX9_hard_4 : decode cX9_hard 4 = .ok (.iload_n 1, 1) := by decide +kernel
theorem dX9_hard_5 : decode cX9_hard 5 = .ok (.invokevirtual 146, 3) := by decide +kernel
theorem dX9_hard_8 : decode cX9_hard 8 = .ok (.ifCond .ne 9, 3) := by decide +kernel
theorem dX9_hard_11 : decode cX9_hard 11 = .ok (.aload_n 0, 1) := by decide +kernel
theorem dX9_hard_12 : decode cX9_hard 12 = .ok (.iconst (-1), 1) := by decide +kernel
theorem dX9_hard_13 : decode cX9_hard 13 = .ok (.invokevirtual 108, 3) := by decide +kernel
theorem dX9_hard_16 : decode cX9_hard 16 = .ok (.ireturn, 1) := by decide +kernel
theorem dX9_hard_17 : decode cX9_hard 17 = .ok (.aload_n 0, 1) := by decide +kernel
theorem dX9_hard_18 : decode cX9_hard 18 = .ok (.getfield 36, 3) := by decide +kernel
theorem dX9_hard_21 : decode cX9_hard 21 = .ok (.iload_n 1, 1) := by decide +kernel
theorem dX9_hard_22 : decode cX9_hard 22 = .ok (.invokevirtual 147, 3) := by decide +kernel
theorem dX9_hard_25 : decode cX9_hard 25 = .ok (.iload_n 2, 1) := by decide +kernel
theorem dX9_hard_26 : decode cX9_hard 26 = .ok (.if_icmp .ne 5, 3) := by decide +kernel
theorem dX9_hard_29 : decode cX9_hard 29 = .ok (.iconst 0, 1) := by decide +kernel
theorem dX9_hard_30 : decode cX9_hard 30 = .ok (.ireturn, 1) := by decide +kernel
theorem dX9_hard_31 : decode cX9_hard 31 = .ok (.aload_n 0, 1) := by decide +kernel
theorem dX9_hard_32 : decode cX9_hard 32 = .ok (.getfield 36, 3) := by decide +kernel
theorem dX9_hard_35 : decode cX9_hard 35 = .ok (.iload_n 1, 1) := by decide +kernel
theorem dX9_hard_36 : decode cX9_hard 36 = .ok (.iload_n 2, 1) := by decide +kernel
theorem dX9_hard_37 : decode cX9_hard 37 = .ok (.invokevirtual 150, 3) := by decide +kernel
theorem dX9_hard_40 : decode cX9_hard 40 = .ok (.iconst 1, 1) := by decide +kernel
theorem dX9_hard_41 : decode cX9_hard 41 = .ok (.ireturn, 1) := by decide +kernel
theorem dX9_kin_0 : decode cX9_kin 0 = .ok (.iload_n 1, 1) := by decide +kernel
theorem dX9_kin_1 : decode cX9_kin 1 = .ok (.iconst 5, 1) := by decide +kernel
theorem dX9_kin_2 : decode cX9_kin 2 = .ok (.invokestatic 112, 3) := by decide +kernel
theorem dX9_kin_5 : decode cX9_kin 5 = .ok (.ifCond .eq 12, 3) := by decide +kernel
theorem dX9_kin_8 : decode cX9_kin 8 = .ok (.iload_n 2, 1) := by decide +kernel
theorem dX9_kin_9 : decode cX9_kin 9 = .ok (.bipush 10, 2) := by decide +kernel
theorem dX9_kin_11 : decode cX9_kin 11 = .ok (.invokestatic 112, 3) := by decide +kernel
theorem dX9_kin_14 : decode cX9_kin 14 = .ok (.ifCond .ne 9, 3) := by decide +kernel
theorem dX9_kin_17 : decode cX9_kin 17 = .ok (.aload_n 0, 1) := by decide +kernel
theorem dX9_kin_18 : decode cX9_kin 18 = .ok (.iconst (-1), 1) := by decide +kernel
theorem dX9_kin_19 : decode cX9_kin 19 = .ok (.invokevirtual 108, 3) := by decide +kernel
theorem dX9_kin_22 : decode cX9_kin 22 = .ok (.ireturn, 1) := by decide +kernel
theorem dX9_kin_23 : decode cX9_kin 23 = .ok (.aload_n 0, 1) := by decide +kernel
theorem dX9_kin_24 : decode cX9_kin 24 = .ok (.iload_n 1, 1) := by decide +kernel
theorem dX9_kin_25 : decode cX9_kin 25 = .ok (.iload_n 2, 1) := by decide +kernel
theorem dX9_kin_26 : decode cX9_kin 26 = .ok (.invokevirtual 154, 3) := by decide +kernel
theorem dX9_kin_29 : decode cX9_kin 29 = .ok (.iload_n 3, 1) := by decide +kernel
theorem dX9_kin_30 : decode cX9_kin 30 = .ok (.if_icmp .ne 5, 3) := by decide +kernel
theorem dX9_kin_33 : decode cX9_kin 33 = .ok (.iconst 0, 1) := by decide +kernel
theorem dX9_kin_34 : decode cX9_kin 34 = .ok (.ireturn, 1) := by decide +kernel
theorem dX9_kin_35 : decode cX9_kin 35 = .ok (.aload_n 0, 1) := by decide +kernel
theorem dX9_kin_36 : decode cX9_kin 36 = .ok (.getfield 13, 3) := by decide +kernel
theorem dX9_kin_39 : decode cX9_kin 39 = .ok (.iload_n 1, 1) := by decide +kernel
theorem dX9_kin_40 : decode cX9_kin 40 = .ok (.bipush 10, 2) := by decide +kernel
theorem dX9_kin_42 : decode cX9_kin 42 = .ok (.imul, 1) := by decide +kernel
theorem dX9_kin_43 : decode cX9_kin 43 = .ok (.iload_n 2, 1) := by decide +kernel
theorem dX9_kin_44 : decode cX9_kin 44 = .ok (.iadd, 1) := by decide +kernel
theorem dX9_kin_45 : decode cX9_kin 45 = .ok (.iload_n 3, 1) := by decide +kernel
theorem dX9_kin_46 : decode cX9_kin 46 = .ok (.bastore, 1) := by decide +kernel
theorem dX9_kin_47 : decode cX9_kin 47 = .ok (.iconst 1, 1) := by decide +kernel
theorem dX9_kin_48 : decode cX9_kin 48 = .ok (.ireturn, 1) := by decide +kernel
theorem dX9_look_0 : decode cX9_look 0 = .ok (.aload_n 0, 1) := by decide +kernel
theorem dX9_look_1 : decode cX9_look 1 = .ok (.getfield 36, 3) := by decide +kernel
theorem dX9_look_4 : decode cX9_look 4 = .ok (.iload_n 1, 1) := by decide +kernel
theorem dX9_look_5 : decode cX9_look 5 = .ok (.invokevirtual 146, 3) := by decide +kernel
theorem dX9_look_8 : decode cX9_look 8 = .ok (.ifCond .eq 11, 3) := by decide +kernel
theorem dX9_look_11 : decode cX9_look 11 = .ok (.iload_n 2, 1) := by decide +kernel
theorem dX9_look_12 : decode cX9_look 12 = .ok (.iconst 5, 1) := by decide +kernel
theorem dX9_look_13 : decode cX9_look 13 = .ok (.invokestatic 112, 3) := by decide +kernel
theorem dX9_look_16 : decode cX9_look 16 = .ok (.ifCond .ne 9, 3) := by decide +kernel
theorem dX9_look_19 : decode cX9_look 19 = .ok (.aload_n 0, 1) := by decide +kernel
theorem dX9_look_20 : decode cX9_look 20 = .ok (.iconst (-1), 1) := by decide +kernel
theorem dX9_look_21 : decode cX9_look 21 = .ok (.invokevirtual 108, 3) := by decide +kernel
theorem dX9_look_24 : decode cX9_look 24 = .ok (.ireturn, 1) := by decide +kernel
theorem dX9_look_25 : decode cX9_look 25 = .ok (.aload_n 0, 1) := by decide +kernel
theorem dX9_look_26 : decode cX9_look 26 = .ok (.iload_n 2, 1) := by decide +kernel
theorem dX9_look_27 : decode cX9_look 27 = .ok (.aload_n 0, 1) := by decide +kernel
theorem dX9_look_28 : decode cX9_look 28 = .ok (.getfield 36, 3) := by decide +kernel
theorem dX9_look_31 : decode cX9_look 31 = .ok (.iload_n 1, 1) := by decide +kernel
theorem dX9_look_32 : decode cX9_look 32 = .ok (.invokevirtual 157, 3) := by decide +kernel
theorem dX9_look_35 : decode cX9_look 35 = .ok (.invokevirtual 154, 3) := by decide +kernel
theorem dX9_look_38 : decode cX9_look 38 = .ok (.ifCond .eq 10, 3) := by decide +kernel
theorem dX9_look_41 : decode cX9_look 41 = .ok (.aload_n 0, 1) := by decide +kernel
theorem dX9_look_42 : decode cX9_look 42 = .ok (.bipush (-7), 2) := by decide +kernel
theorem dX9_look_44 : decode cX9_look 44 = .ok (.invokevirtual 108, 3) := by decide +kernel
theorem dX9_look_47 : decode cX9_look 47 = .ok (.ireturn, 1) := by decide +kernel
theorem dX9_look_48 : decode cX9_look 48 = .ok (.iload_n 3, 1) := by decide +kernel
theorem dX9_look_49 : decode cX9_look 49 = .ok (.aload_n 0, 1) := by decide +kernel
theorem dX9_look_50 : decode cX9_look 50 = .ok (.getfield 95, 3) := by decide +kernel
theorem dX9_look_53 : decode cX9_look 53 = .ok (.if_icmp .le 10, 3) := by decide +kernel
theorem dX9_look_56 : decode cX9_look 56 = .ok (.aload_n 0, 1) := by decide +kernel
theorem dX9_look_57 : decode cX9_look 57 = .ok (.bipush (-3), 2) := by decide +kernel
theorem dX9_look_59 : decode cX9_look 59 = .ok (.invokevirtual 108, 3) := by decide +kernel
theorem dX9_look_62 : decode cX9_look 62 = .ok (.ireturn, 1) := by decide +kernel
theorem dX9_look_63 : decode cX9_look 63 = .ok (.iload_n 3, 1) := by decide +kernel
theorem dX9_look_64 : decode cX9_look 64 = .ok (.ifCond .ge 10, 3) := by decide +kernel
theorem dX9_look_67 : decode cX9_look 67 = .ok (.aload_n 0, 1) := by decide +kernel
theorem dX9_look_68 : decode cX9_look 68 = .ok (.bipush (-4), 2) := by decide +kernel
theorem dX9_look_70 : decode cX9_look 70 = .ok (.invokevirtual 108, 3) := by decide +kernel
theorem dX9_look_73 : decode cX9_look 73 = .ok (.ireturn, 1) := by decide +kernel
theorem dX9_look_74 : decode cX9_look 74 = .ok (.aload_n 0, 1) := by decide +kernel
theorem dX9_look_75 : decode cX9_look 75 = .ok (.getfield 45, 3) := by decide +kernel
theorem dX9_look_78 : decode cX9_look 78 = .ok (.invokevirtual 160, 3) := by decide +kernel
theorem dX9_look_81 : decode cX9_look 81 = .ok (.ifCond .eq 10, 3) := by decide +kernel
theorem dX9_look_84 : decode cX9_look 84 = .ok (.aload_n 0, 1) := by decide +kernel
theorem dX9_look_85 : decode cX9_look 85 = .ok (.bipush (-6), 2) := by decide +kernel
theorem dX9_look_87 : decode cX9_look 87 = .ok (.invokevirtual 108, 3) := by decide +kernel
theorem dX9_look_90 : decode cX9_look 90 = .ok (.ireturn, 1) := by decide +kernel
theorem dX9_look_91 : decode cX9_look 91 = .ok (.aload_n 0, 1) := by decide +kernel
theorem dX9_look_92 : decode cX9_look 92 = .ok (.getfield 45, 3) := by decide +kernel
theorem dX9_look_95 : decode cX9_look 95 = .ok (.iload_n 1, 1) := by decide +kernel
theorem dX9_look_96 : decode cX9_look 96 = .ok (.iload_n 2, 1) := by decide +kernel
theorem dX9_look_97 : decode cX9_look 97 = .ok (.iload_n 3, 1) := by decide +kernel
theorem dX9_look_98 : decode cX9_look 98 = .ok (.aload_n 0, 1) := by decide +kernel
theorem dX9_look_99 : decode cX9_look 99 = .ok (.getfield 95, 3) := by decide +kernel
theorem dX9_look_102 : decode cX9_look 102 = .ok (.invokevirtual 161, 3) := by decide +kernel
theorem dX9_look_105 : decode cX9_look 105 = .ok (.ireturn, 1) := by decide +kernel
theorem dX9_find_0 : decode cX9_find 0 = .ok (.aload_n 0, 1) := by decide +kernel
theorem dX9_find_1 : decode cX9_find 1 = .ok (.getfield 29, 3) := by decide +kernel
theorem dX9_find_4 : decode cX9_find 4 = .ok (.iload_n 1, 1) := by decide +kernel
theorem dX9_find_5 : decode cX9_find 5 = .ok (.invokevirtual 124, 3) := by decide +kernel
theorem dX9_find_8 : decode cX9_find 8 = .ok (.ifCond .ne 9, 3) := by decide +kernel
theorem dX9_find_11 : decode cX9_find 11 = .ok (.aload_n 0, 1) := by decide +kernel
theorem dX9_find_12 : decode cX9_find 12 = .ok (.iconst (-1), 1) := by decide +kernel
theorem dX9_find_13 : decode cX9_find 13 = .ok (.invokevirtual 108, 3) := by decide +kernel
theorem dX9_find_16 : decode cX9_find 16 = .ok (.ireturn, 1) := by decide +kernel
theorem dX9_find_17 : decode cX9_find 17 = .ok (.aload_n 0, 1) := by decide +kernel
theorem dX9_find_18 : decode cX9_find 18 = .ok (.getfield 45, 3) := by decide +kernel
theorem dX9_find_21 : decode cX9_find 21 = .ok (.invokevirtual 164, 3) := by decide +kernel
theorem dX9_find_24 : decode cX9_find 24 = .ok (.iconst 1, 1) := by decide +kernel
theorem dX9_find_25 : decode cX9_find 25 = .ok (.isub, 1) := by decide +kernel
theorem dX9_find_26 : decode cX9_find 26 = .ok (.istore_n 3, 1) := by decide +kernel
theorem dX9_find_27 : decode cX9_find 27 = .ok (.aload_n 0, 1) := by decide +kernel
theorem dX9_find_28 : decode cX9_find 28 = .ok (.getfield 45, 3) := by decide +kernel
theorem dX9_find_31 : decode cX9_find 31 = .ok (.iload_n 3, 1) := by decide +kernel
theorem dX9_find_32 : decode cX9_find 32 = .ok (.invokevirtual 168, 3) := by decide +kernel
theorem dX9_find_35 : decode cX9_find 35 = .ok (.ifCond .eq 14, 3) := by decide +kernel
theorem dX9_find_38 : decode cX9_find 38 = .ok (.aload_n 0, 1) := by decide +kernel
theorem dX9_find_39 : decode cX9_find 39 = .ok (.getfield 45, 3) := by decide +kernel
theorem dX9_find_42 : decode cX9_find 42 = .ok (.iload_n 3, 1) := by decide +kernel
theorem dX9_find_43 : decode cX9_find 43 = .ok (.invokevirtual 169, 3) := by decide +kernel
theorem dX9_find_46 : decode cX9_find 46 = .ok (.ifCond .eq 10, 3) := by decide +kernel
theorem dX9_find_49 : decode cX9_find 49 = .ok (.aload_n 0, 1) := by decide +kernel
theorem dX9_find_50 : decode cX9_find 50 = .ok (.bipush (-3), 2) := by decide +kernel
theorem dX9_find_52 : decode cX9_find 52 = .ok (.invokevirtual 108, 3) := by decide +kernel
theorem dX9_find_55 : decode cX9_find 55 = .ok (.ireturn, 1) := by decide +kernel
theorem dX9_find_56 : decode cX9_find 56 = .ok (.aload_n 0, 1) := by decide +kernel
theorem dX9_find_57 : decode cX9_find 57 = .ok (.getfield 29, 3) := by decide +kernel
theorem dX9_find_60 : decode cX9_find 60 = .ok (.iload_n 1, 1) := by decide +kernel
theorem dX9_find_61 : decode cX9_find 61 = .ok (.aload_n 0, 1) := by decide +kernel
theorem dX9_find_62 : decode cX9_find 62 = .ok (.getfield 45, 3) := by decide +kernel
theorem dX9_find_65 : decode cX9_find 65 = .ok (.iload_n 3, 1) := by decide +kernel
theorem dX9_find_66 : decode cX9_find 66 = .ok (.invokevirtual 172, 3) := by decide +kernel
theorem dX9_find_69 : decode cX9_find 69 = .ok (.invokevirtual 175, 3) := by decide +kernel
theorem dX9_find_72 : decode cX9_find 72 = .ok (.ifCond .ne 10, 3) := by decide +kernel
theorem dX9_find_75 : decode cX9_find 75 = .ok (.aload_n 0, 1) := by decide +kernel
theorem dX9_find_76 : decode cX9_find 76 = .ok (.bipush (-3), 2) := by decide +kernel
theorem dX9_find_78 : decode cX9_find 78 = .ok (.invokevirtual 108, 3) := by decide +kernel
theorem dX9_find_81 : decode cX9_find 81 = .ok (.ireturn, 1) := by decide +kernel
theorem dX9_find_82 : decode cX9_find 82 = .ok (.iload_n 2, 1) := by decide +kernel
theorem dX9_find_83 : decode cX9_find 83 = .ok (.iconst 1, 1) := by decide +kernel
theorem dX9_find_84 : decode cX9_find 84 = .ok (.if_icmp .ge 10, 3) := by decide +kernel
theorem dX9_find_87 : decode cX9_find 87 = .ok (.aload_n 0, 1) := by decide +kernel
theorem dX9_find_88 : decode cX9_find 88 = .ok (.bipush (-4), 2) := by decide +kernel
theorem dX9_find_90 : decode cX9_find 90 = .ok (.invokevirtual 108, 3) := by decide +kernel
theorem dX9_find_93 : decode cX9_find 93 = .ok (.ireturn, 1) := by decide +kernel
theorem dX9_find_94 : decode cX9_find 94 = .ok (.iload_n 2, 1) := by decide +kernel
theorem dX9_find_95 : decode cX9_find 95 = .ok (.bipush 9, 2) := by decide +kernel
theorem dX9_find_97 : decode cX9_find 97 = .ok (.if_icmp .gt 19, 3) := by decide +kernel
theorem dX9_find_100 : decode cX9_find 100 = .ok (.iload_n 2, 1) := by decide +kernel
theorem dX9_find_101 : decode cX9_find 101 = .ok (.bipush 99, 2) := by decide +kernel
theorem dX9_find_103 : decode cX9_find 103 = .ok (.aload_n 0, 1) := by decide +kernel
theorem dX9_find_104 : decode cX9_find 104 = .ok (.getfield 45, 3) := by decide +kernel
theorem dX9_find_107 : decode cX9_find 107 = .ok (.iload_n 3, 1) := by decide +kernel
theorem dX9_find_108 : decode cX9_find 108 = .ok (.iload_n 1, 1) := by decide +kernel
theorem dX9_find_109 : decode cX9_find 109 = .ok (.invokevirtual 178, 3) := by decide +kernel
theorem dX9_find_112 : decode cX9_find 112 = .ok (.isub, 1) := by decide +kernel
theorem dX9_find_113 : decode cX9_find 113 = .ok (.if_icmp .le 10, 3) := by decide +kernel
theorem dX9_find_116 : decode cX9_find 116 = .ok (.aload_n 0, 1) := by decide +kernel
theorem dX9_find_117 : decode cX9_find 117 = .ok (.bipush (-6), 2) := by decide +kernel
theorem dX9_find_119 : decode cX9_find 119 = .ok (.invokevirtual 108, 3) := by decide +kernel
theorem dX9_find_122 : decode cX9_find 122 = .ok (.ireturn, 1) := by decide +kernel
theorem dX9_find_123 : decode cX9_find 123 = .ok (.aload_n 0, 1) := by decide +kernel
theorem dX9_find_124 : decode cX9_find 124 = .ok (.getfield 45, 3) := by decide +kernel
theorem dX9_find_127 : decode cX9_find 127 = .ok (.iload_n 3, 1) := by decide +kernel
theorem dX9_find_128 : decode cX9_find 128 = .ok (.iload_n 1, 1) := by decide +kernel
theorem dX9_find_129 : decode cX9_find 129 = .ok (.iload_n 2, 1) := by decide +kernel
theorem dX9_find_130 : decode cX9_find 130 = .ok (.invokevirtual 181, 3) := by decide +kernel
theorem dX9_find_133 : decode cX9_find 133 = .ok (.ireturn, 1) := by decide +kernel
theorem dX9_back_0 : decode cX9_back 0 = .ok (.aload_n 0, 1) := by decide +kernel
theorem dX9_back_1 : decode cX9_back 1 = .ok (.getfield 45, 3) := by decide +kernel
theorem dX9_back_4 : decode cX9_back 4 = .ok (.iload_n 1, 1) := by decide +kernel
theorem dX9_back_5 : decode cX9_back 5 = .ok (.invokevirtual 168, 3) := by decide +kernel
theorem dX9_back_8 : decode cX9_back 8 = .ok (.ifCond .ne 9, 3) := by decide +kernel
theorem dX9_back_11 : decode cX9_back 11 = .ok (.aload_n 0, 1) := by decide +kernel
theorem dX9_back_12 : decode cX9_back 12 = .ok (.iconst (-1), 1) := by decide +kernel
theorem dX9_back_13 : decode cX9_back 13 = .ok (.invokevirtual 108, 3) := by decide +kernel
theorem dX9_back_16 : decode cX9_back 16 = .ok (.ireturn, 1) := by decide +kernel
theorem dX9_back_17 : decode cX9_back 17 = .ok (.aload_n 0, 1) := by decide +kernel
theorem dX9_back_18 : decode cX9_back 18 = .ok (.getfield 45, 3) := by decide +kernel
theorem dX9_back_21 : decode cX9_back 21 = .ok (.iload_n 1, 1) := by decide +kernel
theorem dX9_back_22 : decode cX9_back 22 = .ok (.invokevirtual 169, 3) := by decide +kernel
theorem dX9_back_25 : decode cX9_back 25 = .ok (.ifCond .eq 10, 3) := by decide +kernel
theorem dX9_back_28 : decode cX9_back 28 = .ok (.aload_n 0, 1) := by decide +kernel
theorem dX9_back_29 : decode cX9_back 29 = .ok (.bipush (-3), 2) := by decide +kernel
theorem dX9_back_31 : decode cX9_back 31 = .ok (.invokevirtual 108, 3) := by decide +kernel
theorem dX9_back_34 : decode cX9_back 34 = .ok (.ireturn, 1) := by decide +kernel
theorem dX9_back_35 : decode cX9_back 35 = .ok (.aload_n 0, 1) := by decide +kernel
theorem dX9_back_36 : decode cX9_back 36 = .ok (.getfield 45, 3) := by decide +kernel
theorem dX9_back_39 : decode cX9_back 39 = .ok (.iload_n 1, 1) := by decide +kernel
theorem dX9_back_40 : decode cX9_back 40 = .ok (.aload_n 0, 1) := by decide +kernel
theorem dX9_back_41 : decode cX9_back 41 = .ok (.getfield 95, 3) := by decide +kernel
theorem dX9_back_44 : decode cX9_back 44 = .ok (.invokevirtual 184, 3) := by decide +kernel
theorem dX9_back_47 : decode cX9_back 47 = .ok (.iconst 1, 1) := by decide +kernel
theorem dX9_back_48 : decode cX9_back 48 = .ok (.ireturn, 1) := by decide +kernel
theorem dX9_score_0 : decode cX9_score 0 = .ok (.aload_n 0, 1) := by decide +kernel
theorem dX9_score_1 : decode cX9_score 1 = .ok (.getfield 45, 3) := by decide +kernel
theorem dX9_score_4 : decode cX9_score 4 = .ok (.iload_n 1, 1) := by decide +kernel
theorem dX9_score_5 : decode cX9_score 5 = .ok (.invokevirtual 168, 3) := by decide +kernel
theorem dX9_score_8 : decode cX9_score 8 = .ok (.ifCond .ne 9, 3) := by decide +kernel
theorem dX9_score_11 : decode cX9_score 11 = .ok (.aload_n 0, 1) := by decide +kernel
theorem dX9_score_12 : decode cX9_score 12 = .ok (.iconst (-1), 1) := by decide +kernel
theorem dX9_score_13 : decode cX9_score 13 = .ok (.invokevirtual 108, 3) := by decide +kernel
theorem dX9_score_16 : decode cX9_score 16 = .ok (.ireturn, 1) := by decide +kernel
theorem dX9_score_17 : decode cX9_score 17 = .ok (.iload_n 2, 1) := by decide +kernel
theorem dX9_score_18 : decode cX9_score 18 = .ok (.ifCond .ge 10, 3) := by decide +kernel
theorem dX9_score_21 : decode cX9_score 21 = .ok (.aload_n 0, 1) := by decide +kernel
theorem dX9_score_22 : decode cX9_score 22 = .ok (.bipush (-4), 2) := by decide +kernel
theorem dX9_score_24 : decode cX9_score 24 = .ok (.invokevirtual 108, 3) := by decide +kernel
theorem dX9_score_27 : decode cX9_score 27 = .ok (.ireturn, 1) := by decide +kernel
theorem dX9_score_28 : decode cX9_score 28 = .ok (.iload_n 2, 1) := by decide +kernel
theorem dX9_score_29 : decode cX9_score 29 = .ok (.sipush 1500, 3) := by decide +kernel
theorem dX9_score_32 : decode cX9_score 32 = .ok (.if_icmp .le 10, 3) := by decide +kernel
theorem dX9_score_35 : decode cX9_score 35 = .ok (.aload_n 0, 1) := by decide +kernel
theorem dX9_score_36 : decode cX9_score 36 = .ok (.bipush (-6), 2) := by decide +kernel
theorem dX9_score_38 : decode cX9_score 38 = .ok (.invokevirtual 108, 3) := by decide +kernel
theorem dX9_score_41 : decode cX9_score 41 = .ok (.ireturn, 1) := by decide +kernel
theorem dX9_score_42 : decode cX9_score 42 = .ok (.aload_n 0, 1) := by decide +kernel
theorem dX9_score_43 : decode cX9_score 43 = .ok (.getfield 45, 3) := by decide +kernel
theorem dX9_score_46 : decode cX9_score 46 = .ok (.iload_n 1, 1) := by decide +kernel
theorem dX9_score_47 : decode cX9_score 47 = .ok (.iload_n 2, 1) := by decide +kernel
theorem dX9_score_48 : decode cX9_score 48 = .ok (.invokevirtual 188, 3) := by decide +kernel
theorem dX9_score_51 : decode cX9_score 51 = .ok (.ireturn, 1) := by decide +kernel
theorem dX9_table_0 : decode cX9_table 0 = .ok (.iload_n 1, 1) := by decide +kernel
theorem dX9_table_1 : decode cX9_table 1 = .ok (.aload_n 0, 1) := by decide +kernel
theorem dX9_table_2 : decode cX9_table 2 = .ok (.getfield 95, 3) := by decide +kernel
theorem dX9_table_5 : decode cX9_table 5 = .ok (.if_icmp .lt 25, 3) := by decide +kernel
theorem dX9_table_8 : decode cX9_table 8 = .ok (.iload_n 2, 1) := by decide +kernel
theorem dX9_table_9 : decode cX9_table 9 = .ok (.ifCond .lt 21, 3) := by decide +kernel
theorem dX9_table_12 : decode cX9_table 12 = .ok (.iload_n 2, 1) := by decide +kernel
theorem dX9_table_13 : decode cX9_table 13 = .ok (.iload_n 3, 1) := by decide +kernel
theorem dX9_table_14 : decode cX9_table 14 = .ok (.if_icmp .gt 16, 3) := by decide +kernel
theorem dX9_table_17 : decode cX9_table 17 = .ok (.iload_n 3, 1) := by decide +kernel
theorem dX9_table_18 : decode cX9_table 18 = .ok (.iload 4, 2) := by decide +kernel
theorem dX9_table_20 : decode cX9_table 20 = .ok (.if_icmp .gt 10, 3) := by decide +kernel
theorem dX9_table_23 : decode cX9_table 23 = .ok (.iload 4, 2) := by decide +kernel
theorem dX9_table_25 : decode cX9_table 25 = .ok (.iload 5, 2) := by decide +kernel
theorem dX9_table_27 : decode cX9_table 27 = .ok (.if_icmp .le 10, 3) := by decide +kernel
theorem dX9_table_30 : decode cX9_table 30 = .ok (.aload_n 0, 1) := by decide +kernel
theorem dX9_table_31 : decode cX9_table 31 = .ok (.bipush (-4), 2) := by decide +kernel
theorem dX9_table_33 : decode cX9_table 33 = .ok (.invokevirtual 108, 3) := by decide +kernel
theorem dX9_table_36 : decode cX9_table 36 = .ok (.ireturn, 1) := by decide +kernel
theorem dX9_table_37 : decode cX9_table 37 = .ok (.iload_n 1, 1) := by decide +kernel
theorem dX9_table_38 : decode cX9_table 38 = .ok (.sipush 1500, 3) := by decide +kernel
theorem dX9_table_41 : decode cX9_table 41 = .ok (.if_icmp .gt 21, 3) := by decide +kernel
theorem dX9_table_44 : decode cX9_table 44 = .ok (.iload 5, 2) := by decide +kernel
theorem dX9_table_46 : decode cX9_table 46 = .ok (.sipush 999, 3) := by decide +kernel
theorem dX9_table_49 : decode cX9_table 49 = .ok (.if_icmp .gt 13, 3) := by decide +kernel
theorem dX9_table_52 : decode cX9_table 52 = .ok (.aload_n 0, 1) := by decide +kernel
theorem dX9_table_53 : decode cX9_table 53 = .ok (.getfield 52, 3) := by decide +kernel
theorem dX9_table_56 : decode cX9_table 56 = .ok (.invokevirtual 191, 3) := by decide +kernel
theorem dX9_table_59 : decode cX9_table 59 = .ok (.ifCond .eq 10, 3) := by decide +kernel
theorem dX9_table_62 : decode cX9_table 62 = .ok (.aload_n 0, 1) := by decide +kernel
theorem dX9_table_63 : decode cX9_table 63 = .ok (.bipush (-6), 2) := by decide +kernel
theorem dX9_table_65 : decode cX9_table 65 = .ok (.invokevirtual 108, 3) := by decide +kernel
theorem dX9_table_68 : decode cX9_table 68 = .ok (.ireturn, 1) := by decide +kernel
theorem dX9_table_69 : decode cX9_table 69 = .ok (.aload_n 0, 1) := by decide +kernel
theorem dX9_table_70 : decode cX9_table 70 = .ok (.getfield 52, 3) := by decide +kernel
theorem dX9_table_73 : decode cX9_table 73 = .ok (.iload_n 1, 1) := by decide +kernel
theorem dX9_table_74 : decode cX9_table 74 = .ok (.iload_n 2, 1) := by decide +kernel
theorem dX9_table_75 : decode cX9_table 75 = .ok (.iload_n 3, 1) := by decide +kernel
theorem dX9_table_76 : decode cX9_table 76 = .ok (.iload 4, 2) := by decide +kernel
theorem dX9_table_78 : decode cX9_table 78 = .ok (.iload 5, 2) := by decide +kernel
theorem dX9_table_80 : decode cX9_table 80 = .ok (.invokevirtual 192, 3) := by decide +kernel
theorem dX9_table_83 : decode cX9_table 83 = .ok (.ireturn, 1) := by decide +kernel
