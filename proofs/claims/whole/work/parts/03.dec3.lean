theorem dX9_nextTotal_11 : decode cX9_nextTotal 11 = .ok (.getfield 13, 3) := by decide +kernel
theorem dX9_nextTotal_14 : decode cX9_nextTotal 14 = .ok (.iconst 0, 1) := by decide +kernel
theorem dX9_nextTotal_15 : decode cX9_nextTotal 15 = .ok (.iaload, 1) := by decide +kernel
theorem dX9_nextTotal_16 : decode cX9_nextTotal 16 = .ok (.if_icmp .ge 17, 3) := by decide +kernel
theorem dX9_nextTotal_19 : decode cX9_nextTotal 19 = .ok (.iload_n 1, 1) := by decide +kernel
theorem dX9_nextTotal_20 : decode cX9_nextTotal 20 = .ok (.aload_n 0, 1) := by decide +kernel
theorem dX9_nextTotal_21 : decode cX9_nextTotal 21 = .ok (.iload_n 2, 1) := by decide +kernel
theorem dX9_nextTotal_22 : decode cX9_nextTotal 22 = .ok (.invokevirtual 153, 3) := by decide +kernel
theorem dX9_nextTotal_25 : decode cX9_nextTotal 25 = .ok (.iadd, 1) := by decide +kernel
theorem dX9_nextTotal_26 : decode cX9_nextTotal 26 = .ok (.istore_n 1, 1) := by decide +kernel
theorem dX9_nextTotal_27 : decode cX9_nextTotal 27 = .ok (.iinc 2 1, 3) := by decide +kernel
theorem dX9_nextTotal_30 : decode cX9_nextTotal 30 = .ok (.goto (-21), 3) := by decide +kernel
theorem dX9_nextTotal_33 : decode cX9_nextTotal 33 = .ok (.iload_n 1, 1) := by decide +kernel
theorem dX9_nextTotal_34 : decode cX9_nextTotal 34 = .ok (.ireturn, 1) := by decide +kernel
theorem dX9_isPeriod_0 : decode cX9_isPeriod 0 = .ok (.iconst 0, 1) := by decide +kernel
theorem dX9_isPeriod_1 : decode cX9_isPeriod 1 = .ok (.istore_n 2, 1) := by decide +kernel
theorem dX9_isPeriod_2 : decode cX9_isPeriod 2 = .ok (.iload_n 2, 1) := by decide +kernel
theorem dX9_isPeriod_3 : decode cX9_isPeriod 3 = .ok (.aload_n 0, 1) := by decide +kernel
theorem dX9_isPeriod_4 : decode cX9_isPeriod 4 = .ok (.getfield 13, 3) := by decide +kernel
theorem dX9_isPeriod_7 : decode cX9_isPeriod 7 = .ok (.iconst 0, 1) := by decide +kernel
theorem dX9_isPeriod_8 : decode cX9_isPeriod 8 = .ok (.iaload, 1) := by decide +kernel
theorem dX9_isPeriod_9 : decode cX9_isPeriod 9 = .ok (.if_icmp .ge 22, 3) := by decide +kernel
theorem dX9_isPeriod_12 : decode cX9_isPeriod 12 = .ok (.iload_n 1, 1) := by decide +kernel
theorem dX9_isPeriod_13 : decode cX9_isPeriod 13 = .ok (.aload_n 0, 1) := by decide +kernel
theorem dX9_isPeriod_14 : decode cX9_isPeriod 14 = .ok (.iload_n 2, 1) := by decide +kernel
theorem dX9_isPeriod_15 : decode cX9_isPeriod 15 = .ok (.iconst 2, 1) := by decide +kernel
theorem dX9_isPeriod_16 : decode cX9_isPeriod 16 = .ok (.invokevirtual 61, 3) := by decide +kernel
theorem dX9_isPeriod_19 : decode cX9_isPeriod 19 = .ok (.irem, 1) := by decide +kernel
theorem dX9_isPeriod_20 : decode cX9_isPeriod 20 = .ok (.ifCond .eq 5, 3) := by decide +kernel
theorem dX9_isPeriod_23 : decode cX9_isPeriod 23 = .ok (.iconst 0, 1) := by decide +kernel
theorem dX9_isPeriod_24 : decode cX9_isPeriod 24 = .ok (.ireturn, 1) := by decide +kernel
theorem dX9_isPeriod_25 : decode cX9_isPeriod 25 = .ok (.iinc 2 1, 3) := by decide +kernel
theorem dX9_isPeriod_28 : decode cX9_isPeriod 28 = .ok (.goto (-26), 3) := by decide +kernel
theorem dX9_isPeriod_31 : decode cX9_isPeriod 31 = .ok (.iconst 1, 1) := by decide +kernel
theorem dX9_isPeriod_32 : decode cX9_isPeriod 32 = .ok (.ireturn, 1) := by decide +kernel
theorem dX9_period_0 : decode cX9_period 0 = .ok (.aload_n 0, 1) := by decide +kernel
theorem dX9_period_1 : decode cX9_period 1 = .ok (.iconst 0, 1) := by decide +kernel
theorem dX9_period_2 : decode cX9_period 2 = .ok (.putfield 1, 3) := by decide +kernel
theorem dX9_period_5 : decode cX9_period 5 = .ok (.iconst 1, 1) := by decide +kernel
theorem dX9_period_6 : decode cX9_period 6 = .ok (.istore_n 1, 1) := by decide +kernel
theorem dX9_period_7 : decode cX9_period 7 = .ok (.aload_n 0, 1) := by decide +kernel
theorem dX9_period_8 : decode cX9_period 8 = .ok (.iload_n 1, 1) := by decide +kernel
theorem dX9_period_9 : decode cX9_period 9 = .ok (.invokevirtual 190, 3) := by decide +kernel
theorem dX9_period_12 : decode cX9_period 12 = .ok (.ifCond .ne 9, 3) := by decide +kernel
theorem dX9_period_15 : decode cX9_period 15 = .ok (.iinc 1 1, 3) := by decide +kernel
theorem dX9_period_18 : decode cX9_period 18 = .ok (.goto (-11), 3) := by decide +kernel
theorem dX9_period_21 : decode cX9_period 21 = .ok (.iload_n 1, 1) := by decide +kernel
theorem dX9_period_22 : decode cX9_period 22 = .ok (.ireturn, 1) := by decide +kernel
theorem dX9_periodBySearch_0 : decode cX9_periodBySearch 0 = .ok (.aload_n 0, 1) := by decide +kernel
theorem dX9_periodBySearch_1 : decode cX9_periodBySearch 1 = .ok (.invokevirtual 193, 3) := by decide +kernel
theorem dX9_periodBySearch_4 : decode cX9_periodBySearch 4 = .ok (.ireturn, 1) := by decide +kernel
theorem dX9_looksAhead_0 : decode cX9_looksAhead 0 = .ok (.iconst 0, 1) := by decide +kernel
theorem dX9_looksAhead_1 : decode cX9_looksAhead 1 = .ok (.istore_n 1, 1) := by decide +kernel
theorem dX9_looksAhead_2 : decode cX9_looksAhead 2 = .ok (.iload_n 1, 1) := by decide +kernel
theorem dX9_looksAhead_3 : decode cX9_looksAhead 3 = .ok (.sipush 260, 3) := by decide +kernel
theorem dX9_looksAhead_6 : decode cX9_looksAhead 6 = .ok (.if_icmp .ge 21, 3) := by decide +kernel
theorem dX9_looksAhead_9 : decode cX9_looksAhead 9 = .ok (.aload_n 0, 1) := by decide +kernel
theorem dX9_looksAhead_10 : decode cX9_looksAhead 10 = .ok (.getfield 26, 3) := by decide +kernel
theorem dX9_looksAhead_13 : decode cX9_looksAhead 13 = .ok (.iload_n 1, 1) := by decide +kernel
theorem dX9_looksAhead_14 : decode cX9_looksAhead 14 = .ok (.aload_n 0, 1) := by decide +kernel
theorem dX9_looksAhead_15 : decode cX9_looksAhead 15 = .ok (.getfield 13, 3) := by decide +kernel
theorem dX9_looksAhead_18 : decode cX9_looksAhead 18 = .ok (.iload_n 1, 1) := by decide +kernel
theorem dX9_looksAhead_19 : decode cX9_looksAhead 19 = .ok (.iaload, 1) := by decide +kernel
theorem dX9_looksAhead_20 : decode cX9_looksAhead 20 = .ok (.iastore, 1) := by decide +kernel
theorem dX9_looksAhead_21 : decode cX9_looksAhead 21 = .ok (.iinc 1 1, 3) := by decide +kernel
theorem dX9_looksAhead_24 : decode cX9_looksAhead 24 = .ok (.goto (-22), 3) := by decide +kernel
theorem dX9_looksAhead_27 : decode cX9_looksAhead 27 = .ok (.return_, 1) := by decide +kernel
theorem dX9_looksBack_0 : decode cX9_looksBack 0 = .ok (.iconst 0, 1) := by decide +kernel
theorem dX9_looksBack_1 : decode cX9_looksBack 1 = .ok (.istore_n 1, 1) := by decide +kernel
theorem dX9_looksBack_2 : decode cX9_looksBack 2 = .ok (.iload_n 1, 1) := by decide +kernel
theorem dX9_looksBack_3 : decode cX9_looksBack 3 = .ok (.sipush 260, 3) := by decide +kernel
theorem dX9_looksBack_6 : decode cX9_looksBack 6 = .ok (.if_icmp .ge 21, 3) := by decide +kernel
theorem dX9_looksBack_9 : decode cX9_looksBack 9 = .ok (.aload_n 0, 1) := by decide +kernel
theorem dX9_looksBack_10 : decode cX9_looksBack 10 = .ok (.getfield 13, 3) := by decide +kernel
theorem dX9_looksBack_13 : decode cX9_looksBack 13 = .ok (.iload_n 1, 1) := by decide +kernel
theorem dX9_looksBack_14 : decode cX9_looksBack 14 = .ok (.aload_n 0, 1) := by decide +kernel
theorem dX9_looksBack_15 : decode cX9_looksBack 15 = .ok (.getfield 26, 3) := by decide +kernel
theorem dX9_looksBack_18 : decode cX9_looksBack 18 = .ok (.iload_n 1, 1) := by decide +kernel
theorem dX9_looksBack_19 : decode cX9_looksBack 19 = .ok (.iaload, 1) := by decide +kernel
theorem dX9_looksBack_20 : decode cX9_looksBack 20 = .ok (.iastore, 1) := by decide +kernel
theorem dX9_looksBack_21 : decode cX9_looksBack 21 = .ok (.iinc 1 1, 3) := by decide +kernel
theorem dX9_looksBack_24 : decode cX9_looksBack 24 = .ok (.goto (-22), 3) := by decide +kernel
theorem dX9_looksBack_27 : decode cX9_looksBack 27 = .ok (.return_, 1) := by decide +kernel
theorem dX9_beatsUntilBreak_0 : decode cX9_beatsUntilBreak 0 = .ok (.aload_n 0, 1) := by decide +kernel
theorem dX9_beatsUntilBreak_1 : decode cX9_beatsUntilBreak 1 = .ok (.iconst 0, 1) := by decide +kernel
theorem dX9_beatsUntilBreak_2 : decode cX9_beatsUntilBreak 2 = .ok (.putfield 1, 3) := by decide +kernel
theorem dX9_beatsUntilBreak_5 : decode cX9_beatsUntilBreak 5 = .ok (.aload_n 0, 1) := by decide +kernel
theorem dX9_beatsUntilBreak_6 : decode cX9_beatsUntilBreak 6 = .ok (.invokevirtual 196, 3) := by decide +kernel
theorem dX9_beatsUntilBreak_9 : decode cX9_beatsUntilBreak 9 = .ok (.aload_n 0, 1) := by decide +kernel
theorem dX9_beatsUntilBreak_10 : decode cX9_beatsUntilBreak 10 = .ok (.getfield 13, 3) := by decide +kernel
theorem dX9_beatsUntilBreak_13 : decode cX9_beatsUntilBreak 13 = .ok (.iconst 4, 1) := by decide +kernel
theorem dX9_beatsUntilBreak_14 : decode cX9_beatsUntilBreak 14 = .ok (.iaload, 1) := by decide +kernel
theorem dX9_beatsUntilBreak_15 : decode cX9_beatsUntilBreak 15 = .ok (.istore_n 1, 1) := by decide +kernel
theorem dX9_beatsUntilBreak_16 : decode cX9_beatsUntilBreak 16 = .ok (.iconst 0, 1) := by decide +kernel
theorem dX9_beatsUntilBreak_17 : decode cX9_beatsUntilBreak 17 = .ok (.istore_n 2, 1) := by decide +kernel
theorem dX9_beatsUntilBreak_18 : decode cX9_beatsUntilBreak 18 = .ok (.iload_n 2, 1) := by decide +kernel
theorem dX9_beatsUntilBreak_19 : decode cX9_beatsUntilBreak 19 = .ok (.bipush 60, 2) := by decide +kernel
theorem dX9_beatsUntilBreak_21 : decode cX9_beatsUntilBreak 21 = .ok (.if_icmp .ge 24, 3) := by decide +kernel
theorem dX9_beatsUntilBreak_24 : decode cX9_beatsUntilBreak 24 = .ok (.aload_n 0, 1) := by decide +kernel
theorem dX9_beatsUntilBreak_25 : decode cX9_beatsUntilBreak 25 = .ok (.getfield 13, 3) := by decide +kernel
theorem dX9_beatsUntilBreak_28 : decode cX9_beatsUntilBreak 28 = .ok (.iconst 4, 1) := by decide +kernel
theorem dX9_beatsUntilBreak_29 : decode cX9_beatsUntilBreak 29 = .ok (.iaload, 1) := by decide +kernel
theorem dX9_beatsUntilBreak_30 : decode cX9_beatsUntilBreak 30 = .ok (.iload_n 1, 1) := by decide +kernel
theorem dX9_beatsUntilBreak_31 : decode cX9_beatsUntilBreak 31 = .ok (.if_icmp .ne 14, 3) := by decide +kernel
theorem dX9_beatsUntilBreak_34 : decode cX9_beatsUntilBreak 34 = .ok (.aload_n 0, 1) := by decide +kernel
theorem dX9_beatsUntilBreak_35 : decode cX9_beatsUntilBreak 35 = .ok (.invokevirtual 167, 3) := by decide +kernel
theorem dX9_beatsUntilBreak_38 : decode cX9_beatsUntilBreak 38 = .ok (.pop, 1) := by decide +kernel
theorem dX9_beatsUntilBreak_39 : decode cX9_beatsUntilBreak 39 = .ok (.iinc 2 1, 3) := by decide +kernel
theorem dX9_beatsUntilBreak_42 : decode cX9_beatsUntilBreak 42 = .ok (.goto (-24), 3) := by decide +kernel
theorem dX9_beatsUntilBreak_45 : decode cX9_beatsUntilBreak 45 = .ok (.aload_n 0, 1) := by decide +kernel
theorem dX9_beatsUntilBreak_46 : decode cX9_beatsUntilBreak 46 = .ok (.getfield 13, 3) := by decide +kernel
theorem dX9_beatsUntilBreak_49 : decode cX9_beatsUntilBreak 49 = .ok (.iconst 4, 1) := by decide +kernel
theorem dX9_beatsUntilBreak_50 : decode cX9_beatsUntilBreak 50 = .ok (.iaload, 1) := by decide +kernel
theorem dX9_beatsUntilBreak_51 : decode cX9_beatsUntilBreak 51 = .ok (.iload_n 1, 1) := by decide +kernel
theorem dX9_beatsUntilBreak_52 : decode cX9_beatsUntilBreak 52 = .ok (.if_icmp .le 7, 3) := by decide +kernel
theorem dX9_beatsUntilBreak_55 : decode cX9_beatsUntilBreak 55 = .ok (.iconst 1, 1) := by decide +kernel
theorem dX9_beatsUntilBreak_56 : decode cX9_beatsUntilBreak 56 = .ok (.goto 4, 3) := by decide +kernel
theorem dX9_beatsUntilBreak_59 : decode cX9_beatsUntilBreak 59 = .ok (.iconst 0, 1) := by decide +kernel
theorem dX9_beatsUntilBreak_60 : decode cX9_beatsUntilBreak 60 = .ok (.istore_n 3, 1) := by decide +kernel
theorem dX9_beatsUntilBreak_61 : decode cX9_beatsUntilBreak 61 = .ok (.aload_n 0, 1) := by decide +kernel
theorem dX9_beatsUntilBreak_62 : decode cX9_beatsUntilBreak 62 = .ok (.invokevirtual 199, 3) := by decide +kernel
theorem dX9_beatsUntilBreak_65 : decode cX9_beatsUntilBreak 65 = .ok (.iload_n 3, 1) := by decide +kernel
theorem dX9_beatsUntilBreak_66 : decode cX9_beatsUntilBreak 66 = .ok (.ifCond .eq 7, 3) := by decide +kernel
theorem dX9_beatsUntilBreak_69 : decode cX9_beatsUntilBreak 69 = .ok (.iload_n 2, 1) := by decide +kernel
theorem dX9_beatsUntilBreak_70 : decode cX9_beatsUntilBreak 70 = .ok (.goto 8, 3) := by decide +kernel
theorem dX9_beatsUntilBreak_73 : decode cX9_beatsUntilBreak 73 = .ok (.aload_n 0, 1) := by decide +kernel
theorem dX9_beatsUntilBreak_74 : decode cX9_beatsUntilBreak 74 = .ok (.iconst 1, 1) := by decide +kernel
theorem dX9_beatsUntilBreak_75 : decode cX9_beatsUntilBreak 75 = .ok (.invokevirtual 87, 3) := by decide +kernel
theorem dX9_beatsUntilBreak_78 : decode cX9_beatsUntilBreak 78 = .ok (.ireturn, 1) := by decide +kernel
theorem dX9_totalWithin_0 : decode cX9_totalWithin 0 = .ok (.aload_n 0, 1) := by decide +kernel
theorem dX9_totalWithin_1 : decode cX9_totalWithin 1 = .ok (.iconst 0, 1) := by decide +kernel
theorem dX9_totalWithin_2 : decode cX9_totalWithin 2 = .ok (.putfield 1, 3) := by decide +kernel
theorem dX9_totalWithin_5 : decode cX9_totalWithin 5 = .ok (.iload_n 1, 1) := by decide +kernel
theorem dX9_totalWithin_6 : decode cX9_totalWithin 6 = .ok (.iconst 0, 1) := by decide +kernel
theorem dX9_totalWithin_7 : decode cX9_totalWithin 7 = .ok (.bipush 60, 2) := by decide +kernel
theorem dX9_totalWithin_9 : decode cX9_totalWithin 9 = .ok (.invokestatic 57, 3) := by decide +kernel
theorem dX9_totalWithin_12 : decode cX9_totalWithin 12 = .ok (.ifCond .ne 9, 3) := by decide +kernel
theorem dX9_totalWithin_15 : decode cX9_totalWithin 15 = .ok (.aload_n 0, 1) := by decide +kernel
theorem dX9_totalWithin_16 : decode cX9_totalWithin 16 = .ok (.iconst 1, 1) := by decide +kernel
theorem dX9_totalWithin_17 : decode cX9_totalWithin 17 = .ok (.invokevirtual 87, 3) := by decide +kernel
theorem dX9_totalWithin_20 : decode cX9_totalWithin 20 = .ok (.ireturn, 1) := by decide +kernel
theorem dX9_totalWithin_21 : decode cX9_totalWithin 21 = .ok (.aload_n 0, 1) := by decide +kernel
theorem dX9_totalWithin_22 : decode cX9_totalWithin 22 = .ok (.invokevirtual 196, 3) := by decide +kernel
theorem dX9_totalWithin_25 : decode cX9_totalWithin 25 = .ok (.aload_n 0, 1) := by decide +kernel
theorem dX9_totalWithin_26 : decode cX9_totalWithin 26 = .ok (.iload_n 1, 1) := by decide +kernel
theorem dX9_totalWithin_27 : decode cX9_totalWithin 27 = .ok (.invokevirtual 171, 3) := by decide +kernel
theorem dX9_totalWithin_30 : decode cX9_totalWithin 30 = .ok (.istore_n 2, 1) := by decide +kernel
theorem dX9_totalWithin_31 : decode cX9_totalWithin 31 = .ok (.aload_n 0, 1) := by decide +kernel
theorem dX9_totalWithin_32 : decode cX9_totalWithin 32 = .ok (.invokevirtual 199, 3) := by decide +kernel
theorem dX9_totalWithin_35 : decode cX9_totalWithin 35 = .ok (.iload_n 2, 1) := by decide +kernel
theorem dX9_totalWithin_36 : decode cX9_totalWithin 36 = .ok (.ireturn, 1) := by decide +kernel
theorem dX9_breakCount_0 : decode cX9_breakCount 0 = .ok (.aload_n 0, 1) := by decide +kernel
theorem dX9_breakCount_1 : decode cX9_breakCount 1 = .ok (.iconst 4, 1) := by decide +kernel
theorem dX9_breakCount_2 : decode cX9_breakCount 2 = .ok (.invokevirtual 177, 3) := by decide +kernel
theorem dX9_breakCount_5 : decode cX9_breakCount 5 = .ok (.ireturn, 1) := by decide +kernel
theorem dX9_playedVolume_0 : decode cX9_playedVolume 0 = .ok (.aload_n 0, 1) := by decide +kernel
theorem dX9_playedVolume_1 : decode cX9_playedVolume 1 = .ok (.iload_n 1, 1) := by decide +kernel
theorem dX9_playedVolume_2 : decode cX9_playedVolume 2 = .ok (.bipush 6, 2) := by decide +kernel
theorem dX9_playedVolume_4 : decode cX9_playedVolume 4 = .ok (.invokevirtual 180, 3) := by decide +kernel
theorem dX9_playedVolume_7 : decode cX9_playedVolume 7 = .ok (.ireturn, 1) := by decide +kernel
theorem dX9_totalVolume_0 : decode cX9_totalVolume 0 = .ok (.aload_n 0, 1) := by decide +kernel
theorem dX9_totalVolume_1 : decode cX9_totalVolume 1 = .ok (.iconst 0, 1) := by decide +kernel
theorem dX9_totalVolume_2 : decode cX9_totalVolume 2 = .ok (.putfield 1, 3) := by decide +kernel
theorem dX9_totalVolume_5 : decode cX9_totalVolume 5 = .ok (.aload_n 0, 1) := by decide +kernel
theorem dX9_totalVolume_6 : decode cX9_totalVolume 6 = .ok (.getfield 13, 3) := by decide +kernel
theorem dX9_totalVolume_9 : decode cX9_totalVolume 9 = .ok (.iconst 5, 1) := by decide +kernel
theorem dX9_totalVolume_10 : decode cX9_totalVolume 10 = .ok (.iaload, 1) := by decide +kernel
theorem dX9_totalVolume_11 : decode cX9_totalVolume 11 = .ok (.i2l, 1) := by decide +kernel
theorem dX9_totalVolume_12 : decode cX9_totalVolume 12 = .ok (.lreturn, 1) := by decide +kernel
theorem dX9_soundsOf_0 : decode cX9_soundsOf 0 = .ok (.aload_n 0, 1) := by decide +kernel
theorem dX9_soundsOf_1 : decode cX9_soundsOf 1 = .ok (.getfield 13, 3) := by decide +kernel
theorem dX9_soundsOf_4 : decode cX9_soundsOf 4 = .ok (.bipush 18, 2) := by decide +kernel
theorem dX9_soundsOf_6 : decode cX9_soundsOf 6 = .ok (.bipush 9, 2) := by decide +kernel
theorem dX9_soundsOf_8 : decode cX9_soundsOf 8 = .ok (.iload_n 1, 1) := by decide +kernel
theorem dX9_soundsOf_9 : decode cX9_soundsOf 9 = .ok (.imul, 1) := by decide +kernel
theorem dX9_soundsOf_10 : decode cX9_soundsOf 10 = .ok (.iadd, 1) := by decide +kernel
theorem dX9_soundsOf_11 : decode cX9_soundsOf 11 = .ok (.iload_n 2, 1) := by decide +kernel
theorem dX9_soundsOf_12 : decode cX9_soundsOf 12 = .ok (.iadd, 1) := by decide +kernel
theorem dX9_soundsOf_13 : decode cX9_soundsOf 13 = .ok (.iconst 1, 1) := by decide +kernel
theorem dX9_soundsOf_14 : decode cX9_soundsOf 14 = .ok (.isub, 1) := by decide +kernel
theorem dX9_soundsOf_15 : decode cX9_soundsOf 15 = .ok (.iaload, 1) := by decide +kernel
theorem dX9_soundsOf_16 : decode cX9_soundsOf 16 = .ok (.ireturn, 1) := by decide +kernel
theorem dX9_volumeBySounds_0 : decode cX9_volumeBySounds 0 = .ok (.iconst 0, 1) := by decide +kernel
theorem dX9_volumeBySounds_1 : decode cX9_volumeBySounds 1 = .ok (.istore_n 1, 1) := by decide +kernel
theorem dX9_volumeBySounds_2 : decode cX9_volumeBySounds 2 = .ok (.iconst 0, 1) := by decide +kernel
theorem dX9_volumeBySounds_3 : decode cX9_volumeBySounds 3 = .ok (.istore_n 2, 1) := by decide +kernel
theorem dX9_volumeBySounds_4 : decode cX9_volumeBySounds 4 = .ok (.iload_n 2, 1) := by decide +kernel
theorem dX9_volumeBySounds_5 : decode cX9_volumeBySounds 5 = .ok (.iconst 3, 1) := by decide +kernel
theorem dX9_volumeBySounds_6 : decode cX9_volumeBySounds 6 = .ok (.if_icmp .ge 38, 3) := by decide +kernel
theorem dX9_volumeBySounds_9 : decode cX9_volumeBySounds 9 = .ok (.iconst 1, 1) := by decide +kernel
theorem dX9_volumeBySounds_10 : decode cX9_volumeBySounds 10 = .ok (.istore_n 3, 1) := by decide +kernel
theorem dX9_volumeBySounds_11 : decode cX9_volumeBySounds 11 = .ok (.iload_n 3, 1) := by decide +kernel
theorem dX9_volumeBySounds_12 : decode cX9_volumeBySounds 12 = .ok (.bipush 9, 2) := by decide +kernel
theorem dX9_volumeBySounds_14 : decode cX9_volumeBySounds 14 = .ok (.if_icmp .gt 24, 3) := by decide +kernel
theorem dX9_volumeBySounds_17 : decode cX9_volumeBySounds 17 = .ok (.iload_n 1, 1) := by decide +kernel
theorem dX9_volumeBySounds_18 : decode cX9_volumeBySounds 18 = .ok (.aload_n 0, 1) := by decide +kernel
theorem dX9_volumeBySounds_19 : decode cX9_volumeBySounds 19 = .ok (.iload_n 2, 1) := by decide +kernel
theorem dX9_volumeBySounds_20 : decode cX9_volumeBySounds 20 = .ok (.iload_n 3, 1) := by decide +kernel
theorem dX9_volumeBySounds_21 : decode cX9_volumeBySounds 21 = .ok (.invokevirtual 202, 3) := by decide +kernel
theorem dX9_volumeBySounds_24 : decode cX9_volumeBySounds 24 = .ok (.iload_n 2, 1) := by decide +kernel
theorem dX9_volumeBySounds_25 : decode cX9_volumeBySounds 25 = .ok (.iload_n 3, 1) := by decide +kernel
theorem dX9_volumeBySounds_26 : decode cX9_volumeBySounds 26 = .ok (.invokestatic 77, 3) := by decide +kernel
theorem dX9_volumeBySounds_29 : decode cX9_volumeBySounds 29 = .ok (.imul, 1) := by decide +kernel
theorem dX9_volumeBySounds_30 : decode cX9_volumeBySounds 30 = .ok (.iadd, 1) := by decide +kernel
theorem dX9_volumeBySounds_31 : decode cX9_volumeBySounds 31 = .ok (.istore_n 1, 1) := by decide +kernel
theorem dX9_volumeBySounds_32 : decode cX9_volumeBySounds 32 = .ok (.iinc 3 1, 3) := by decide +kernel
theorem dX9_volumeBySounds_35 : decode cX9_volumeBySounds 35 = .ok (.goto (-24), 3) := by decide +kernel
theorem dX9_volumeBySounds_38 : decode cX9_volumeBySounds 38 = .ok (.iinc 2 1, 3) := by decide +kernel
theorem dX9_volumeBySounds_41 : decode cX9_volumeBySounds 41 = .ok (.goto (-37), 3) := by decide +kernel
theorem dX9_volumeBySounds_44 : decode cX9_volumeBySounds 44 = .ok (.iload_n 1, 1) := by decide +kernel
theorem dX9_volumeBySounds_45 : decode cX9_volumeBySounds 45 = .ok (.ireturn, 1) := by decide +kernel
theorem dX9_totalVolumeBySounds_0 : decode cX9_totalVolumeBySounds 0 = .ok (.aload_n 0, 1) := by decide +kernel
theorem dX9_totalVolumeBySounds_1 : decode cX9_totalVolumeBySounds 1 = .ok (.iconst 0, 1) := by decide +kernel
theorem dX9_totalVolumeBySounds_2 : decode cX9_totalVolumeBySounds 2 = .ok (.putfield 1, 3) := by decide +kernel
theorem dX9_totalVolumeBySounds_5 : decode cX9_totalVolumeBySounds 5 = .ok (.aload_n 0, 1) := by decide +kernel
theorem dX9_totalVolumeBySounds_6 : decode cX9_totalVolumeBySounds 6 = .ok (.invokevirtual 205, 3) := by decide +kernel
theorem dX9_totalVolumeBySounds_9 : decode cX9_totalVolumeBySounds 9 = .ok (.i2l, 1) := by decide +kernel
theorem dX9_totalVolumeBySounds_10 : decode cX9_totalVolumeBySounds 10 = .ok (.lreturn, 1) := by decide +kernel
theorem dX9_soundCount_0 : decode cX9_soundCount 0 = .ok (.aload_n 0, 1) := by decide +kernel
theorem dX9_soundCount_1 : decode cX9_soundCount 1 = .ok (.iconst 0, 1) := by decide +kernel
theorem dX9_soundCount_2 : decode cX9_soundCount 2 = .ok (.putfield 1, 3) := by decide +kernel
theorem dX9_soundCount_5 : decode cX9_soundCount 5 = .ok (.iload_n 1, 1) := by decide +kernel
theorem dX9_soundCount_6 : decode cX9_soundCount 6 = .ok (.invokestatic 80, 3) := by decide +kernel
theorem dX9_soundCount_9 : decode cX9_soundCount 9 = .ok (.ifCond .lt 13, 3) := by decide +kernel
theorem dX9_soundCount_12 : decode cX9_soundCount 12 = .ok (.iload_n 2, 1) := by decide +kernel
theorem dX9_soundCount_13 : decode cX9_soundCount 13 = .ok (.iconst 1, 1) := by decide +kernel
theorem dX9_soundCount_14 : decode cX9_soundCount 14 = .ok (.bipush 9, 2) := by decide +kernel
theorem dX9_soundCount_16 : decode cX9_soundCount 16 = .ok (.invokestatic 57, 3) := by decide +kernel
theorem dX9_soundCount_19 : decode cX9_soundCount 19 = .ok (.ifCond .ne 11, 3) := by decide +kernel
theorem dX9_soundCount_22 : decode cX9_soundCount 22 = .ok (.aload_n 0, 1) := by decide +kernel
theorem dX9_soundCount_23 : decode cX9_soundCount 23 = .ok (.iconst 1, 1) := by decide +kernel
theorem dX9_soundCount_24 : decode cX9_soundCount 24 = .ok (.invokevirtual 87, 3) := by decide +kernel
theorem dX9_soundCount_27 : decode cX9_soundCount 27 = .ok (.goto 12, 3) := by decide +kernel
theorem dX9_soundCount_30 : decode cX9_soundCount 30 = .ok (.aload_n 0, 1) := by decide +kernel
theorem dX9_soundCount_31 : decode cX9_soundCount 31 = .ok (.iload_n 1, 1) := by decide +kernel
theorem dX9_soundCount_32 : decode cX9_soundCount 32 = .ok (.invokestatic 80, 3) := by decide +kernel
theorem dX9_soundCount_35 : decode cX9_soundCount 35 = .ok (.iload_n 2, 1) := by decide +kernel
theorem dX9_soundCount_36 : decode cX9_soundCount 36 = .ok (.invokevirtual 202, 3) := by decide +kernel
theorem dX9_soundCount_39 : decode cX9_soundCount 39 = .ok (.ireturn, 1) := by decide +kernel
theorem dX9_greatestTotal_0 : decode cX9_greatestTotal 0 = .ok (.aload_n 0, 1) := by decide +kernel
theorem dX9_greatestTotal_1 : decode cX9_greatestTotal 1 = .ok (.iconst 0, 1) := by decide +kernel
theorem dX9_greatestTotal_2 : decode cX9_greatestTotal 2 = .ok (.putfield 1, 3) := by decide +kernel
theorem dX9_greatestTotal_5 : decode cX9_greatestTotal 5 = .ok (.aload_n 0, 1) := by decide +kernel
theorem dX9_greatestTotal_6 : decode cX9_greatestTotal 6 = .ok (.getfield 13, 3) := by decide +kernel
theorem dX9_greatestTotal_9 : decode cX9_greatestTotal 9 = .ok (.iconst 1, 1) := by decide +kernel
theorem dX9_greatestTotal_10 : decode cX9_greatestTotal 10 = .ok (.iaload, 1) := by decide +kernel
theorem dX9_greatestTotal_11 : decode cX9_greatestTotal 11 = .ok (.ifCond .ne 11, 3) := by decide +kernel
theorem dX9_greatestTotal_14 : decode cX9_greatestTotal 14 = .ok (.aload_n 0, 1) := by decide +kernel
theorem dX9_greatestTotal_15 : decode cX9_greatestTotal 15 = .ok (.iconst 1, 1) := by decide +kernel
theorem dX9_greatestTotal_16 : decode cX9_greatestTotal 16 = .ok (.invokevirtual 87, 3) := by decide +kernel
theorem dX9_greatestTotal_19 : decode cX9_greatestTotal 19 = .ok (.goto 10, 3) := by decide +kernel
theorem dX9_greatestTotal_22 : decode cX9_greatestTotal 22 = .ok (.aload_n 0, 1) := by decide +kernel
theorem dX9_greatestTotal_23 : decode cX9_greatestTotal 23 = .ok (.getfield 13, 3) := by decide +kernel
theorem dX9_greatestTotal_26 : decode cX9_greatestTotal 26 = .ok (.bipush 6, 2) := by decide +kernel
theorem dX9_greatestTotal_28 : decode cX9_greatestTotal 28 = .ok (.iaload, 1) := by decide +kernel
theorem dX9_greatestTotal_29 : decode cX9_greatestTotal 29 = .ok (.ireturn, 1) := by decide +kernel
theorem dX9_loggedTotal_0 : decode cX9_loggedTotal 0 = .ok (.aload_n 0, 1) := by decide +kernel
theorem dX9_loggedTotal_1 : decode cX9_loggedTotal 1 = .ok (.iconst 0, 1) := by decide +kernel
theorem dX9_loggedTotal_2 : decode cX9_loggedTotal 2 = .ok (.putfield 1, 3) := by decide +kernel
theorem dX9_loggedTotal_5 : decode cX9_loggedTotal 5 = .ok (.iload_n 1, 1) := by decide +kernel
theorem dX9_loggedTotal_6 : decode cX9_loggedTotal 6 = .ok (.iconst 0, 1) := by decide +kernel
theorem dX9_loggedTotal_7 : decode cX9_loggedTotal 7 = .ok (.aload_n 0, 1) := by decide +kernel
theorem dX9_loggedTotal_8 : decode cX9_loggedTotal 8 = .ok (.getfield 13, 3) := by decide +kernel
theorem dX9_loggedTotal_11 : decode cX9_loggedTotal 11 = .ok (.bipush 7, 2) := by decide +kernel
theorem dX9_loggedTotal_13 : decode cX9_loggedTotal 13 = .ok (.iaload, 1) := by decide +kernel
theorem dX9_loggedTotal_14 : decode cX9_loggedTotal 14 = .ok (.iconst 1, 1) := by decide +kernel
theorem dX9_loggedTotal_15 : decode cX9_loggedTotal 15 = .ok (.isub, 1) := by decide +kernel
theorem dX9_loggedTotal_16 : decode cX9_loggedTotal 16 = .ok (.invokestatic 57, 3) := by decide +kernel
theorem dX9_loggedTotal_19 : decode cX9_loggedTotal 19 = .ok (.ifCond .eq 15, 3) := by decide +kernel
theorem dX9_loggedTotal_22 : decode cX9_loggedTotal 22 = .ok (.aload_n 0, 1) := by decide +kernel
theorem dX9_loggedTotal_23 : decode cX9_loggedTotal 23 = .ok (.getfield 13, 3) := by decide +kernel
theorem dX9_loggedTotal_26 : decode cX9_loggedTotal 26 = .ok (.bipush 8, 2) := by decide +kernel
theorem dX9_loggedTotal_28 : decode cX9_loggedTotal 28 = .ok (.iload_n 1, 1) := by decide +kernel
theorem dX9_loggedTotal_29 : decode cX9_loggedTotal 29 = .ok (.iadd, 1) := by decide +kernel
theorem dX9_loggedTotal_30 : decode cX9_loggedTotal 30 = .ok (.iaload, 1) := by decide +kernel
theorem dX9_loggedTotal_31 : decode cX9_loggedTotal 31 = .ok (.goto 8, 3) := by decide +kernel
theorem dX9_loggedTotal_34 : decode cX9_loggedTotal 34 = .ok (.aload_n 0, 1) := by decide +kernel
theorem dX9_loggedTotal_35 : decode cX9_loggedTotal 35 = .ok (.iconst 1, 1) := by decide +kernel
theorem dX9_loggedTotal_36 : decode cX9_loggedTotal 36 = .ok (.invokevirtual 87, 3) := by decide +kernel
theorem dX9_loggedTotal_39 : decode cX9_loggedTotal 39 = .ok (.ireturn, 1) := by decide +kernel
theorem dX9_isAhead_0 : decode cX9_isAhead 0 = .ok (.aload_n 0, 1) := by decide +kernel
theorem dX9_isAhead_1 : decode cX9_isAhead 1 = .ok (.iload_n 1, 1) := by decide +kernel
theorem dX9_isAhead_2 : decode cX9_isAhead 2 = .ok (.bipush 6, 2) := by decide +kernel
theorem dX9_isAhead_4 : decode cX9_isAhead 4 = .ok (.invokevirtual 61, 3) := by decide +kernel
theorem dX9_isAhead_7 : decode cX9_isAhead 7 = .ok (.aload_n 0, 1) := by decide +kernel
theorem dX9_isAhead_8 : decode cX9_isAhead 8 = .ok (.iload_n 2, 1) := by decide +kernel
theorem dX9_isAhead_9 : decode cX9_isAhead 9 = .ok (.bipush 6, 2) := by decide +kernel
theorem dX9_isAhead_11 : decode cX9_isAhead 11 = .ok (.invokevirtual 61, 3) := by decide +kernel
theorem dX9_isAhead_14 : decode cX9_isAhead 14 = .ok (.isub, 1) := by decide +kernel
theorem dX9_isAhead_15 : decode cX9_isAhead 15 = .ok (.istore_n 3, 1) := by decide +kernel
theorem dX9_isAhead_16 : decode cX9_isAhead 16 = .ok (.aload_n 0, 1) := by decide +kernel
theorem dX9_isAhead_17 : decode cX9_isAhead 17 = .ok (.iload_n 2, 1) := by decide +kernel
theorem dX9_isAhead_18 : decode cX9_isAhead 18 = .ok (.iconst 4, 1) := by decide +kernel
theorem dX9_isAhead_19 : decode cX9_isAhead 19 = .ok (.invokevirtual 61, 3) := by decide +kernel
theorem dX9_isAhead_22 : decode cX9_isAhead 22 = .ok (.aload_n 0, 1) := by decide +kernel
theorem dX9_isAhead_23 : decode cX9_isAhead 23 = .ok (.iload_n 1, 1) := by decide +kernel
theorem dX9_isAhead_24 : decode cX9_isAhead 24 = .ok (.iconst 4, 1) := by decide +kernel
theorem dX9_isAhead_25 : decode cX9_isAhead 25 = .ok (.invokevirtual 61, 3) := by decide +kernel
theorem dX9_isAhead_28 : decode cX9_isAhead 28 = .ok (.isub, 1) := by decide +kernel
theorem dX9_isAhead_29 : decode cX9_isAhead 29 = .ok (.istore 4, 2) := by decide +kernel
theorem dX9_isAhead_31 : decode cX9_isAhead 31 = .ok (.iload_n 3, 1) := by decide +kernel
theorem dX9_isAhead_32 : decode cX9_isAhead 32 = .ok (.ifCond .eq 13, 3) := by decide +kernel
theorem dX9_isAhead_35 : decode cX9_isAhead 35 = .ok (.iload_n 3, 1) := by decide +kernel
theorem dX9_isAhead_36 : decode cX9_isAhead 36 = .ok (.ifCond .le 7, 3) := by decide +kernel
theorem dX9_isAhead_39 : decode cX9_isAhead 39 = .ok (.iconst 1, 1) := by decide +kernel
theorem dX9_isAhead_40 : decode cX9_isAhead 40 = .ok (.goto 4, 3) := by decide +kernel
theorem dX9_isAhead_43 : decode cX9_isAhead 43 = .ok (.iconst 0, 1) := by decide +kernel
theorem dX9_isAhead_44 : decode cX9_isAhead 44 = .ok (.ireturn, 1) := by decide +kernel
theorem dX9_isAhead_45 : decode cX9_isAhead 45 = .ok (.iload 4, 2) := by decide +kernel
theorem dX9_isAhead_47 : decode cX9_isAhead 47 = .ok (.ifCond .eq 16, 3) := by decide +kernel
theorem dX9_isAhead_50 : decode cX9_isAhead 50 = .ok (.iload 4, 2) := by decide +kernel
theorem dX9_isAhead_52 : decode cX9_isAhead 52 = .ok (.ifCond .le 7, 3) := by decide +kernel
theorem dX9_isAhead_55 : decode cX9_isAhead 55 = .ok (.iconst 1, 1) := by decide +kernel
theorem dX9_isAhead_56 : decode cX9_isAhead 56 = .ok (.goto 17, 3) := by decide +kernel
theorem dX9_isAhead_59 : decode cX9_isAhead 59 = .ok (.iconst 0, 1) := by decide +kernel
theorem dX9_isAhead_60 : decode cX9_isAhead 60 = .ok (.goto 13, 3) := by decide +kernel
theorem dX9_isAhead_63 : decode cX9_isAhead 63 = .ok (.iload_n 1, 1) := by decide +kernel
theorem dX9_isAhead_64 : decode cX9_isAhead 64 = .ok (.iload_n 2, 1) := by decide +kernel
theorem dX9_isAhead_65 : decode cX9_isAhead 65 = .ok (.if_icmp .ge 7, 3) := by decide +kernel
theorem dX9_isAhead_68 : decode cX9_isAhead 68 = .ok (.iconst 1, 1) := by decide +kernel
theorem dX9_isAhead_69 : decode cX9_isAhead 69 = .ok (.goto 4, 3) := by decide +kernel
theorem dX9_isAhead_72 : decode cX9_isAhead 72 = .ok (.iconst 0, 1) := by decide +kernel
theorem dX9_isAhead_73 : decode cX9_isAhead 73 = .ok (.ireturn, 1) := by decide +kernel
theorem dX9_sectionByVolume_0 : decode cX9_sectionByVolume 0 = .ok (.aload_n 0, 1) := by decide +kernel
theorem dX9_sectionByVolume_1 : decode cX9_sectionByVolume 1 = .ok (.iconst 0, 1) := by decide +kernel
theorem dX9_sectionByVolume_2 : decode cX9_sectionByVolume 2 = .ok (.putfield 1, 3) := by decide +kernel
theorem dX9_sectionByVolume_5 : decode cX9_sectionByVolume 5 = .ok (.iconst 0, 1) := by decide +kernel
theorem dX9_sectionByVolume_6 : decode cX9_sectionByVolume 6 = .ok (.istore_n 2, 1) := by decide +kernel
theorem dX9_sectionByVolume_7 : decode cX9_sectionByVolume 7 = .ok (.iload_n 2, 1) := by decide +kernel
theorem dX9_sectionByVolume_8 : decode cX9_sectionByVolume 8 = .ok (.aload_n 0, 1) := by decide +kernel
theorem dX9_sectionByVolume_9 : decode cX9_sectionByVolume 9 = .ok (.getfield 13, 3) := by decide +kernel
theorem dX9_sectionByVolume_12 : decode cX9_sectionByVolume 12 = .ok (.iconst 0, 1) := by decide +kernel
theorem dX9_sectionByVolume_13 : decode cX9_sectionByVolume 13 = .ok (.iaload, 1) := by decide +kernel
theorem dX9_sectionByVolume_14 : decode cX9_sectionByVolume 14 = .ok (.if_icmp .ge 56, 3) := by decide +kernel
theorem dX9_sectionByVolume_17 : decode cX9_sectionByVolume 17 = .ok (.iconst 0, 1) := by decide +kernel
theorem dX9_sectionByVolume_18 : decode cX9_sectionByVolume 18 = .ok (.istore_n 3, 1) := by decide +kernel
theorem dX9_sectionByVolume_19 : decode cX9_sectionByVolume 19 = .ok (.iconst 0, 1) := by decide +kernel
theorem dX9_sectionByVolume_20 : decode cX9_sectionByVolume 20 = .ok (.istore 4, 2) := by decide +kernel
theorem dX9_sectionByVolume_22 : decode cX9_sectionByVolume 22 = .ok (.iload 4, 2) := by decide +kernel
theorem dX9_sectionByVolume_24 : decode cX9_sectionByVolume 24 = .ok (.aload_n 0, 1) := by decide +kernel
theorem dX9_sectionByVolume_25 : decode cX9_sectionByVolume 25 = .ok (.getfield 13, 3) := by decide +kernel
theorem dX9_sectionByVolume_28 : decode cX9_sectionByVolume 28 = .ok (.iconst 0, 1) := by decide +kernel
theorem dX9_sectionByVolume_29 : decode cX9_sectionByVolume 29 = .ok (.iaload, 1) := by decide +kernel
theorem dX9_sectionByVolume_30 : decode cX9_sectionByVolume 30 = .ok (.if_icmp .ge 27, 3) := by decide +kernel
theorem dX9_sectionByVolume_33 : decode cX9_sectionByVolume 33 = .ok (.iload_n 3, 1) := by decide +kernel
theorem dX9_sectionByVolume_34 : decode cX9_sectionByVolume 34 = .ok (.aload_n 0, 1) := by decide +kernel
theorem dX9_sectionByVolume_35 : decode cX9_sectionByVolume 35 = .ok (.iload 4, 2) := by decide +kernel
theorem dX9_sectionByVolume_37 : decode cX9_sectionByVolume 37 = .ok (.iload_n 2, 1) := by decide +kernel
theorem dX9_sectionByVolume_38 : decode cX9_sectionByVolume 38 = .ok (.invokevirtual 208, 3) := by decide +kernel
theorem dX9_sectionByVolume_41 : decode cX9_sectionByVolume 41 = .ok (.ifCond .eq 7, 3) := by decide +kernel
theorem dX9_sectionByVolume_44 : decode cX9_sectionByVolume 44 = .ok (.iconst 1, 1) := by decide +kernel
theorem dX9_sectionByVolume_45 : decode cX9_sectionByVolume 45 = .ok (.goto 4, 3) := by decide +kernel
theorem dX9_sectionByVolume_48 : decode cX9_sectionByVolume 48 = .ok (.iconst 0, 1) := by decide +kernel
theorem dX9_sectionByVolume_49 : decode cX9_sectionByVolume 49 = .ok (.iadd, 1) := by decide +kernel
theorem dX9_sectionByVolume_50 : decode cX9_sectionByVolume 50 = .ok (.istore_n 3, 1) := by decide +kernel
theorem dX9_sectionByVolume_51 : decode cX9_sectionByVolume 51 = .ok (.iinc 4 1, 3) := by decide +kernel
theorem dX9_sectionByVolume_54 : decode cX9_sectionByVolume 54 = .ok (.goto (-32), 3) := by decide +kernel
theorem dX9_sectionByVolume_57 : decode cX9_sectionByVolume 57 = .ok (.iload_n 3, 1) := by decide +kernel
theorem dX9_sectionByVolume_58 : decode cX9_sectionByVolume 58 = .ok (.iload_n 1, 1) := by decide +kernel
theorem dX9_sectionByVolume_59 : decode cX9_sectionByVolume 59 = .ok (.if_icmp .ne 5, 3) := by decide +kernel
theorem dX9_sectionByVolume_62 : decode cX9_sectionByVolume 62 = .ok (.iload_n 2, 1) := by decide +kernel
theorem dX9_sectionByVolume_63 : decode cX9_sectionByVolume 63 = .ok (.ireturn, 1) := by decide +kernel
theorem dX9_sectionByVolume_64 : decode cX9_sectionByVolume 64 = .ok (.iinc 2 1, 3) := by decide +kernel
theorem dX9_sectionByVolume_67 : decode cX9_sectionByVolume 67 = .ok (.goto (-60), 3) := by decide +kernel
theorem dX9_sectionByVolume_70 : decode cX9_sectionByVolume 70 = .ok (.aload_n 0, 1) := by decide +kernel
theorem dX9_sectionByVolume_71 : decode cX9_sectionByVolume 71 = .ok (.iconst 1, 1) := by decide +kernel
theorem dX9_sectionByVolume_72 : decode cX9_sectionByVolume 72 = .ok (.invokevirtual 87, 3) := by decide +kernel
theorem dX9_sectionByVolume_75 : decode cX9_sectionByVolume 75 = .ok (.ireturn, 1) := by decide +kernel
theorem dX9_soundsAll_0 : decode cX9_soundsAll 0 = .ok (.aload_n 0, 1) := by decide +kernel
theorem dX9_soundsAll_1 : decode cX9_soundsAll 1 = .ok (.iconst 0, 1) := by decide +kernel
theorem dX9_soundsAll_2 : decode cX9_soundsAll 2 = .ok (.iload_n 1, 1) := by decide +kernel
theorem dX9_soundsAll_3 : decode cX9_soundsAll 3 = .ok (.invokevirtual 202, 3) := by decide +kernel
theorem dX9_soundsAll_6 : decode cX9_soundsAll 6 = .ok (.aload_n 0, 1) := by decide +kernel
theorem dX9_soundsAll_7 : decode cX9_soundsAll 7 = .ok (.iconst 1, 1) := by decide +kernel
theorem dX9_soundsAll_8 : decode cX9_soundsAll 8 = .ok (.iload_n 1, 1) := by decide +kernel
theorem dX9_soundsAll_9 : decode cX9_soundsAll 9 = .ok (.invokevirtual 202, 3) := by decide +kernel
theorem dX9_soundsAll_12 : decode cX9_soundsAll 12 = .ok (.iadd, 1) := by decide +kernel
theorem dX9_soundsAll_13 : decode cX9_soundsAll 13 = .ok (.aload_n 0, 1) := by decide +kernel
theorem dX9_soundsAll_14 : decode cX9_soundsAll 14 = .ok (.iconst 2, 1) := by decide +kernel
theorem dX9_soundsAll_15 : decode cX9_soundsAll 15 = .ok (.iload_n 1, 1) := by decide +kernel
theorem dX9_soundsAll_16 : decode cX9_soundsAll 16 = .ok (.invokevirtual 202, 3) := by decide +kernel
theorem dX9_soundsAll_19 : decode cX9_soundsAll 19 = .ok (.iadd, 1) := by decide +kernel
theorem dX9_soundsAll_20 : decode cX9_soundsAll 20 = .ok (.ireturn, 1) := by decide +kernel
theorem dX9_noteBySounds_0 : decode cX9_noteBySounds 0 = .ok (.aload_n 0, 1) := by decide +kernel
theorem dX9_noteBySounds_1 : decode cX9_noteBySounds 1 = .ok (.iconst 0, 1) := by decide +kernel
theorem dX9_noteBySounds_2 : decode cX9_noteBySounds 2 = .ok (.putfield 1, 3) := by decide +kernel
theorem dX9_noteBySounds_5 : decode cX9_noteBySounds 5 = .ok (.iconst 1, 1) := by decide +kernel
theorem dX9_noteBySounds_6 : decode cX9_noteBySounds 6 = .ok (.istore_n 2, 1) := by decide +kernel
theorem dX9_noteBySounds_7 : decode cX9_noteBySounds 7 = .ok (.iload_n 2, 1) := by decide +kernel
theorem dX9_noteBySounds_8 : decode cX9_noteBySounds 8 = .ok (.bipush 9, 2) := by decide +kernel
theorem dX9_noteBySounds_10 : decode cX9_noteBySounds 10 = .ok (.if_icmp .gt 72, 3) := by decide +kernel
theorem dX9_noteBySounds_13 : decode cX9_noteBySounds 13 = .ok (.iconst 0, 1) := by decide +kernel
theorem dX9_noteBySounds_14 : decode cX9_noteBySounds 14 = .ok (.istore_n 3, 1) := by decide +kernel
theorem dX9_noteBySounds_15 : decode cX9_noteBySounds 15 = .ok (.iconst 1, 1) := by decide +kernel
theorem dX9_noteBySounds_16 : decode cX9_noteBySounds 16 = .ok (.istore 4, 2) := by decide +kernel
theorem dX9_noteBySounds_18 : decode cX9_noteBySounds 18 = .ok (.iload 4, 2) := by decide +kernel
theorem dX9_noteBySounds_20 : decode cX9_noteBySounds 20 = .ok (.bipush 9, 2) := by decide +kernel
theorem dX9_noteBySounds_22 : decode cX9_noteBySounds 22 = .ok (.if_icmp .gt 47, 3) := by decide +kernel
theorem dX9_noteBySounds_25 : decode cX9_noteBySounds 25 = .ok (.aload_n 0, 1) := by decide +kernel
theorem dX9_noteBySounds_26 : decode cX9_noteBySounds 26 = .ok (.iload 4, 2) := by decide +kernel
theorem dX9_noteBySounds_28 : decode cX9_noteBySounds 28 = .ok (.invokevirtual 211, 3) := by decide +kernel
theorem dX9_noteBySounds_31 : decode cX9_noteBySounds 31 = .ok (.aload_n 0, 1) := by decide +kernel
theorem dX9_noteBySounds_32 : decode cX9_noteBySounds 32 = .ok (.iload_n 2, 1) := by decide +kernel
theorem dX9_noteBySounds_33 : decode cX9_noteBySounds 33 = .ok (.invokevirtual 211, 3) := by decide +kernel
theorem dX9_noteBySounds_36 : decode cX9_noteBySounds 36 = .ok (.isub, 1) := by decide +kernel
theorem dX9_noteBySounds_37 : decode cX9_noteBySounds 37 = .ok (.istore 5, 2) := by decide +kernel
theorem dX9_noteBySounds_39 : decode cX9_noteBySounds 39 = .ok (.iload_n 3, 1) := by decide +kernel
theorem dX9_noteBySounds_40 : decode cX9_noteBySounds 40 = .ok (.iload 5, 2) := by decide +kernel
theorem dX9_noteBySounds_42 : decode cX9_noteBySounds 42 = .ok (.ifCond .gt 14, 3) := by decide +kernel
theorem dX9_noteBySounds_45 : decode cX9_noteBySounds 45 = .ok (.iload 5, 2) := by decide +kernel
theorem dX9_noteBySounds_47 : decode cX9_noteBySounds 47 = .ok (.ifCond .ne 13, 3) := by decide +kernel
theorem dX9_noteBySounds_50 : decode cX9_noteBySounds 50 = .ok (.iload 4, 2) := by decide +kernel
theorem dX9_noteBySounds_52 : decode cX9_noteBySounds 52 = .ok (.iload_n 2, 1) := by decide +kernel
theorem dX9_noteBySounds_53 : decode cX9_noteBySounds 53 = .ok (.if_icmp .le 7, 3) := by decide +kernel
theorem dX9_noteBySounds_56 : decode cX9_noteBySounds 56 = .ok (.iconst 1, 1) := by decide +kernel
theorem dX9_noteBySounds_57 : decode cX9_noteBySounds 57 = .ok (.goto 4, 3) := by decide +kernel
theorem dX9_noteBySounds_60 : decode cX9_noteBySounds 60 = .ok (.iconst 0, 1) := by decide +kernel
theorem dX9_noteBySounds_61 : decode cX9_noteBySounds 61 = .ok (.iadd, 1) := by decide +kernel
theorem dX9_noteBySounds_62 : decode cX9_noteBySounds 62 = .ok (.istore_n 3, 1) := by decide +kernel
theorem dX9_noteBySounds_63 : decode cX9_noteBySounds 63 = .ok (.iinc 4 1, 3) := by decide +kernel
theorem dX9_noteBySounds_66 : decode cX9_noteBySounds 66 = .ok (.goto (-48), 3) := by decide +kernel
theorem dX9_noteBySounds_69 : decode cX9_noteBySounds 69 = .ok (.iload_n 3, 1) := by decide +kernel
theorem dX9_noteBySounds_70 : decode cX9_noteBySounds 70 = .ok (.iload_n 1, 1) := by decide +kernel
theorem dX9_noteBySounds_71 : decode cX9_noteBySounds 71 = .ok (.if_icmp .ne 5, 3) := by decide +kernel
theorem dX9_noteBySounds_74 : decode cX9_noteBySounds 74 = .ok (.iload_n 2, 1) := by decide +kernel
theorem dX9_noteBySounds_75 : decode cX9_noteBySounds 75 = .ok (.ireturn, 1) := by decide +kernel
theorem dX9_noteBySounds_76 : decode cX9_noteBySounds 76 = .ok (.iinc 2 1, 3) := by decide +kernel
theorem dX9_noteBySounds_79 : decode cX9_noteBySounds 79 = .ok (.goto (-72), 3) := by decide +kernel
theorem dX9_noteBySounds_82 : decode cX9_noteBySounds 82 = .ok (.aload_n 0, 1) := by decide +kernel
theorem dX9_noteBySounds_83 : decode cX9_noteBySounds 83 = .ok (.iconst 1, 1) := by decide +kernel
theorem dX9_noteBySounds_84 : decode cX9_noteBySounds 84 = .ok (.invokevirtual 87, 3) := by decide +kernel
theorem dX9_noteBySounds_87 : decode cX9_noteBySounds 87 = .ok (.ireturn, 1) := by decide +kernel
theorem dX9_meanTotal_0 : decode cX9_meanTotal 0 = .ok (.aload_n 0, 1) := by decide +kernel
theorem dX9_meanTotal_1 : decode cX9_meanTotal 1 = .ok (.iconst 0, 1) := by decide +kernel
theorem dX9_meanTotal_2 : decode cX9_meanTotal 2 = .ok (.putfield 1, 3) := by decide +kernel
theorem dX9_meanTotal_5 : decode cX9_meanTotal 5 = .ok (.aload_n 0, 1) := by decide +kernel
theorem dX9_meanTotal_6 : decode cX9_meanTotal 6 = .ok (.getfield 13, 3) := by decide +kernel
theorem dX9_meanTotal_9 : decode cX9_meanTotal 9 = .ok (.iconst 1, 1) := by decide +kernel
theorem dX9_meanTotal_10 : decode cX9_meanTotal 10 = .ok (.iaload, 1) := by decide +kernel
theorem dX9_meanTotal_11 : decode cX9_meanTotal 11 = .ok (.ifCond .ne 12, 3) := by decide +kernel
theorem dX9_meanTotal_14 : decode cX9_meanTotal 14 = .ok (.aload_n 0, 1) := by decide +kernel
theorem dX9_meanTotal_15 : decode cX9_meanTotal 15 = .ok (.iconst 1, 1) := by decide +kernel
theorem dX9_meanTotal_16 : decode cX9_meanTotal 16 = .ok (.invokevirtual 87, 3) := by decide +kernel
theorem dX9_meanTotal_19 : decode cX9_meanTotal 19 = .ok (.i2d, 1) := by decide +kernel
theorem dX9_meanTotal_20 : decode cX9_meanTotal 20 = .ok (.goto 18, 3) := by decide +kernel
theorem dX9_meanTotal_23 : decode cX9_meanTotal 23 = .ok (.aload_n 0, 1) := by decide +kernel
theorem dX9_meanTotal_24 : decode cX9_meanTotal 24 = .ok (.getfield 13, 3) := by decide +kernel
theorem dX9_meanTotal_27 : decode cX9_meanTotal 27 = .ok (.iconst 5, 1) := by decide +kernel
theorem dX9_meanTotal_28 : decode cX9_meanTotal 28 = .ok (.iaload, 1) := by decide +kernel
theorem dX9_meanTotal_29 : decode cX9_meanTotal 29 = .ok (.i2d, 1) := by decide +kernel
theorem dX9_meanTotal_30 : decode cX9_meanTotal 30 = .ok (.aload_n 0, 1) := by decide +kernel
theorem dX9_meanTotal_31 : decode cX9_meanTotal 31 = .ok (.getfield 13, 3) := by decide +kernel
theorem dX9_meanTotal_34 : decode cX9_meanTotal 34 = .ok (.iconst 1, 1) := by decide +kernel
theorem dX9_meanTotal_35 : decode cX9_meanTotal 35 = .ok (.iaload, 1) := by decide +kernel
theorem dX9_meanTotal_36 : decode cX9_meanTotal 36 = .ok (.i2d, 1) := by decide +kernel
theorem dX9_meanTotal_37 : decode cX9_meanTotal 37 = .ok (.ddiv, 1) := by decide +kernel
theorem dX9_meanTotal_38 : decode cX9_meanTotal 38 = .ok (.dreturn, 1) := by decide +kernel
theorem dX9_maskedShare_0 : decode cX9_maskedShare 0 = .ok (.aload_n 0, 1) := by decide +kernel
theorem dX9_maskedShare_1 : decode cX9_maskedShare 1 = .ok (.iconst 0, 1) := by decide +kernel
theorem dX9_maskedShare_2 : decode cX9_maskedShare 2 = .ok (.putfield 1, 3) := by decide +kernel
theorem dX9_maskedShare_5 : decode cX9_maskedShare 5 = .ok (.aload_n 0, 1) := by decide +kernel
theorem dX9_maskedShare_6 : decode cX9_maskedShare 6 = .ok (.iload_n 1, 1) := by decide +kernel
theorem dX9_maskedShare_7 : decode cX9_maskedShare 7 = .ok (.invokevirtual 69, 3) := by decide +kernel
theorem dX9_maskedShare_10 : decode cX9_maskedShare 10 = .ok (.ifCond .ne 10, 3) := by decide +kernel
theorem dX9_maskedShare_13 : decode cX9_maskedShare 13 = .ok (.aload_n 0, 1) := by decide +kernel
theorem dX9_maskedShare_14 : decode cX9_maskedShare 14 = .ok (.iconst 1, 1) := by decide +kernel
theorem dX9_maskedShare_15 : decode cX9_maskedShare 15 = .ok (.invokevirtual 87, 3) := by decide +kernel
theorem dX9_maskedShare_18 : decode cX9_maskedShare 18 = .ok (.i2f, 1) := by decide +kernel
theorem dX9_maskedShare_19 : decode cX9_maskedShare 19 = .ok (.freturn, 1) := by decide +kernel
theorem dX9_maskedShare_20 : decode cX9_maskedShare 20 = .ok (.iconst 0, 1) := by decide +kernel
theorem dX9_maskedShare_21 : decode cX9_maskedShare 21 = .ok (.istore_n 2, 1) := by decide +kernel
theorem dX9_maskedShare_22 : decode cX9_maskedShare 22 = .ok (.iconst 0, 1) := by decide +kernel
theorem dX9_maskedShare_23 : decode cX9_maskedShare 23 = .ok (.istore_n 3, 1) := by decide +kernel
theorem dX9_maskedShare_24 : decode cX9_maskedShare 24 = .ok (.iload_n 3, 1) := by decide +kernel
theorem dX9_maskedShare_25 : decode cX9_maskedShare 25 = .ok (.aload_n 0, 1) := by decide +kernel
theorem dX9_maskedShare_26 : decode cX9_maskedShare 26 = .ok (.iload_n 1, 1) := by decide +kernel
theorem dX9_maskedShare_27 : decode cX9_maskedShare 27 = .ok (.iconst 2, 1) := by decide +kernel
theorem dX9_maskedShare_28 : decode cX9_maskedShare 28 = .ok (.invokevirtual 61, 3) := by decide +kernel
theorem dX9_maskedShare_31 : decode cX9_maskedShare 31 = .ok (.if_icmp .ge 26, 3) := by decide +kernel
theorem dX9_maskedShare_34 : decode cX9_maskedShare 34 = .ok (.iload_n 2, 1) := by decide +kernel
theorem dX9_maskedShare_35 : decode cX9_maskedShare 35 = .ok (.aload_n 0, 1) := by decide +kernel
theorem dX9_maskedShare_36 : decode cX9_maskedShare 36 = .ok (.iload_n 1, 1) := by decide +kernel
theorem dX9_maskedShare_37 : decode cX9_maskedShare 37 = .ok (.iload_n 3, 1) := by decide +kernel
theorem dX9_maskedShare_38 : decode cX9_maskedShare 38 = .ok (.invokevirtual 113, 3) := by decide +kernel
theorem dX9_maskedShare_41 : decode cX9_maskedShare 41 = .ok (.ifCond .eq 7, 3) := by decide +kernel
theorem dX9_maskedShare_44 : decode cX9_maskedShare 44 = .ok (.iconst 1, 1) := by decide +kernel
theorem dX9_maskedShare_45 : decode cX9_maskedShare 45 = .ok (.goto 4, 3) := by decide +kernel
theorem dX9_maskedShare_48 : decode cX9_maskedShare 48 = .ok (.iconst 0, 1) := by decide +kernel
theorem dX9_maskedShare_49 : decode cX9_maskedShare 49 = .ok (.iadd, 1) := by decide +kernel
theorem dX9_maskedShare_50 : decode cX9_maskedShare 50 = .ok (.istore_n 2, 1) := by decide +kernel
theorem dX9_maskedShare_51 : decode cX9_maskedShare 51 = .ok (.iinc 3 1, 3) := by decide +kernel
theorem dX9_maskedShare_54 : decode cX9_maskedShare 54 = .ok (.goto (-30), 3) := by decide +kernel
theorem dX9_maskedShare_57 : decode cX9_maskedShare 57 = .ok (.iload_n 2, 1) := by decide +kernel
theorem dX9_maskedShare_58 : decode cX9_maskedShare 58 = .ok (.i2f, 1) := by decide +kernel
theorem dX9_maskedShare_59 : decode cX9_maskedShare 59 = .ok (.aload_n 0, 1) := by decide +kernel
theorem dX9_maskedShare_60 : decode cX9_maskedShare 60 = .ok (.iload_n 1, 1) := by decide +kernel
theorem dX9_maskedShare_61 : decode cX9_maskedShare 61 = .ok (.iconst 2, 1) := by decide +kernel
theorem dX9_maskedShare_62 : decode cX9_maskedShare 62 = .ok (.invokevirtual 61, 3) := by decide +kernel
theorem dX9_maskedShare_65 : decode cX9_maskedShare 65 = .ok (.i2f, 1) := by decide +kernel
theorem dX9_maskedShare_66 : decode cX9_maskedShare 66 = .ok (.fdiv, 1) := by decide +kernel
theorem dX9_maskedShare_67 : decode cX9_maskedShare 67 = .ok (.freturn, 1) := by decide +kernel
theorem dX9_isConsistent_0 : decode cX9_isConsistent 0 = .ok (.aload_n 0, 1) := by decide +kernel
theorem dX9_isConsistent_1 : decode cX9_isConsistent 1 = .ok (.iconst 0, 1) := by decide +kernel
theorem dX9_isConsistent_2 : decode cX9_isConsistent 2 = .ok (.putfield 1, 3) := by decide +kernel
theorem dX9_isConsistent_5 : decode cX9_isConsistent 5 = .ok (.aload_n 0, 1) := by decide +kernel
theorem dX9_isConsistent_6 : decode cX9_isConsistent 6 = .ok (.getfield 13, 3) := by decide +kernel
theorem dX9_isConsistent_9 : decode cX9_isConsistent 9 = .ok (.iconst 5, 1) := by decide +kernel
theorem dX9_isConsistent_10 : decode cX9_isConsistent 10 = .ok (.iaload, 1) := by decide +kernel
theorem dX9_isConsistent_11 : decode cX9_isConsistent 11 = .ok (.aload_n 0, 1) := by decide +kernel
theorem dX9_isConsistent_12 : decode cX9_isConsistent 12 = .ok (.invokevirtual 205, 3) := by decide +kernel
theorem dX9_isConsistent_15 : decode cX9_isConsistent 15 = .ok (.if_icmp .ne 7, 3) := by decide +kernel
theorem dX9_isConsistent_18 : decode cX9_isConsistent 18 = .ok (.iconst 1, 1) := by decide +kernel
theorem dX9_isConsistent_19 : decode cX9_isConsistent 19 = .ok (.goto 4, 3) := by decide +kernel
theorem dX9_isConsistent_22 : decode cX9_isConsistent 22 = .ok (.iconst 0, 1) := by decide +kernel
theorem dX9_isConsistent_23 : decode cX9_isConsistent 23 = .ok (.ireturn, 1) := by decide +kernel
theorem dX9_writes_0 : decode cX9_writes 0 = .ok (.aload_n 0, 1) := by decide +kernel
theorem dX9_writes_1 : decode cX9_writes 1 = .ok (.getfield 29, 3) := by decide +kernel
theorem dX9_writes_4 : decode cX9_writes 4 = .ok (.aload_n 0, 1) := by decide +kernel
theorem dX9_writes_5 : decode cX9_writes 5 = .ok (.getfield 214, 3) := by decide +kernel
theorem dX9_writes_8 : decode cX9_writes 8 = .ok (.iload_n 1, 1) := by decide +kernel
theorem dX9_writes_9 : decode cX9_writes 9 = .ok (.i2c, 1) := by decide +kernel
theorem dX9_writes_10 : decode cX9_writes 10 = .ok (.castore, 1) := by decide +kernel
theorem dX9_writes_11 : decode cX9_writes 11 = .ok (.aload_n 0, 1) := by decide +kernel
theorem dX9_writes_12 : decode cX9_writes 12 = .ok (.dup, 1) := by decide +kernel
theorem dX9_writes_13 : decode cX9_writes 13 = .ok (.getfield 214, 3) := by decide +kernel
theorem dX9_writes_16 : decode cX9_writes 16 = .ok (.iconst 1, 1) := by decide +kernel
theorem dX9_writes_17 : decode cX9_writes 17 = .ok (.iadd, 1) := by decide +kernel
theorem dX9_writes_18 : decode cX9_writes 18 = .ok (.putfield 214, 3) := by decide +kernel
theorem dX9_writes_21 : decode cX9_writes 21 = .ok (.return_, 1) := by decide +kernel
theorem dX9_renderScore_0 : decode cX9_renderScore 0 = .ok (.aload_n 0, 1) := by decide +kernel
theorem dX9_renderScore_1 : decode cX9_renderScore 1 = .ok (.iconst 0, 1) := by decide +kernel
theorem dX9_renderScore_2 : decode cX9_renderScore 2 = .ok (.putfield 1, 3) := by decide +kernel
theorem dX9_renderScore_5 : decode cX9_renderScore 5 = .ok (.aload_n 0, 1) := by decide +kernel
theorem dX9_renderScore_6 : decode cX9_renderScore 6 = .ok (.iload_n 1, 1) := by decide +kernel
theorem dX9_renderScore_7 : decode cX9_renderScore 7 = .ok (.invokevirtual 69, 3) := by decide +kernel
theorem dX9_renderScore_10 : decode cX9_renderScore 10 = .ok (.ifCond .ne 9, 3) := by decide +kernel
theorem dX9_renderScore_13 : decode cX9_renderScore 13 = .ok (.aload_n 0, 1) := by decide +kernel
theorem dX9_renderScore_14 : decode cX9_renderScore 14 = .ok (.iconst 1, 1) := by decide +kernel
theorem dX9_renderScore_15 : decode cX9_renderScore 15 = .ok (.invokevirtual 87, 3) := by decide +kernel
theorem dX9_renderScore_18 : decode cX9_renderScore 18 = .ok (.ireturn, 1) := by decide +kernel
theorem dX9_renderScore_19 : decode cX9_renderScore 19 = .ok (.aload_n 0, 1) := by decide +kernel
theorem dX9_renderScore_20 : decode cX9_renderScore 20 = .ok (.iconst 0, 1) := by decide +kernel
theorem dX9_renderScore_21 : decode cX9_renderScore 21 = .ok (.putfield 214, 3) := by decide +kernel
theorem dX9_renderScore_24 : decode cX9_renderScore 24 = .ok (.aload_n 0, 1) := by decide +kernel
theorem dX9_renderScore_25 : decode cX9_renderScore 25 = .ok (.aload_n 0, 1) := by decide +kernel
theorem dX9_renderScore_26 : decode cX9_renderScore 26 = .ok (.iload_n 1, 1) := by decide +kernel
theorem dX9_renderScore_27 : decode cX9_renderScore 27 = .ok (.iconst 0, 1) := by decide +kernel
theorem dX9_renderScore_28 : decode cX9_renderScore 28 = .ok (.invokevirtual 61, 3) := by decide +kernel
theorem dX9_renderScore_31 : decode cX9_renderScore 31 = .ok (.invokestatic 183, 3) := by decide +kernel
theorem dX9_renderScore_34 : decode cX9_renderScore 34 = .ok (.invokevirtual 217, 3) := by decide +kernel
theorem dX9_renderScore_37 : decode cX9_renderScore 37 = .ok (.aload_n 0, 1) := by decide +kernel
theorem dX9_renderScore_38 : decode cX9_renderScore 38 = .ok (.bipush 58, 2) := by decide +kernel
theorem dX9_renderScore_40 : decode cX9_renderScore 40 = .ok (.invokevirtual 217, 3) := by decide +kernel
theorem dX9_renderScore_43 : decode cX9_renderScore 43 = .ok (.iconst 0, 1) := by decide +kernel
theorem dX9_renderScore_44 : decode cX9_renderScore 44 = .ok (.istore_n 2, 1) := by decide +kernel
theorem dX9_renderScore_45 : decode cX9_renderScore 45 = .ok (.iload_n 2, 1) := by decide +kernel
theorem dX9_renderScore_46 : decode cX9_renderScore 46 = .ok (.aload_n 0, 1) := by decide +kernel
theorem dX9_renderScore_47 : decode cX9_renderScore 47 = .ok (.iload_n 1, 1) := by decide +kernel
theorem dX9_renderScore_48 : decode cX9_renderScore 48 = .ok (.iconst 1, 1) := by decide +kernel
theorem dX9_renderScore_49 : decode cX9_renderScore 49 = .ok (.invokevirtual 61, 3) := by decide +kernel
theorem dX9_renderScore_52 : decode cX9_renderScore 52 = .ok (.if_icmp .ge 51, 3) := by decide +kernel
theorem dX9_renderScore_55 : decode cX9_renderScore 55 = .ok (.iload_n 2, 1) := by decide +kernel
theorem dX9_renderScore_56 : decode cX9_renderScore 56 = .ok (.ifCond .le 9, 3) := by decide +kernel
theorem dX9_renderScore_59 : decode cX9_renderScore 59 = .ok (.aload_n 0, 1) := by decide +kernel
theorem dX9_renderScore_60 : decode cX9_renderScore 60 = .ok (.bipush 47, 2) := by decide +kernel
theorem dX9_renderScore_62 : decode cX9_renderScore 62 = .ok (.invokevirtual 217, 3) := by decide +kernel
theorem dX9_renderScore_65 : decode cX9_renderScore 65 = .ok (.iconst 0, 1) := by decide +kernel
theorem dX9_renderScore_66 : decode cX9_renderScore 66 = .ok (.istore_n 3, 1) := by decide +kernel
theorem dX9_renderScore_67 : decode cX9_renderScore 67 = .ok (.iload_n 3, 1) := by decide +kernel
theorem dX9_renderScore_68 : decode cX9_renderScore 68 = .ok (.aload_n 0, 1) := by decide +kernel
theorem dX9_renderScore_69 : decode cX9_renderScore 69 = .ok (.iload_n 1, 1) := by decide +kernel
theorem dX9_renderScore_70 : decode cX9_renderScore 70 = .ok (.iconst 2, 1) := by decide +kernel
theorem dX9_renderScore_71 : decode cX9_renderScore 71 = .ok (.invokevirtual 61, 3) := by decide +kernel
theorem dX9_renderScore_74 : decode cX9_renderScore 74 = .ok (.if_icmp .ge 23, 3) := by decide +kernel
theorem dX9_renderScore_77 : decode cX9_renderScore 77 = .ok (.aload_n 0, 1) := by decide +kernel
theorem dX9_renderScore_78 : decode cX9_renderScore 78 = .ok (.bipush 48, 2) := by decide +kernel
theorem dX9_renderScore_80 : decode cX9_renderScore 80 = .ok (.aload_n 0, 1) := by decide +kernel
theorem dX9_renderScore_81 : decode cX9_renderScore 81 = .ok (.iload_n 1, 1) := by decide +kernel
theorem dX9_renderScore_82 : decode cX9_renderScore 82 = .ok (.iload_n 2, 1) := by decide +kernel
theorem dX9_renderScore_83 : decode cX9_renderScore 83 = .ok (.iload_n 3, 1) := by decide +kernel
theorem dX9_renderScore_84 : decode cX9_renderScore 84 = .ok (.invokevirtual 73, 3) := by decide +kernel
theorem dX9_renderScore_87 : decode cX9_renderScore 87 = .ok (.iadd, 1) := by decide +kernel
theorem dX9_renderScore_88 : decode cX9_renderScore 88 = .ok (.invokevirtual 217, 3) := by decide +kernel
theorem dX9_renderScore_91 : decode cX9_renderScore 91 = .ok (.iinc 3 1, 3) := by decide +kernel
theorem dX9_renderScore_94 : decode cX9_renderScore 94 = .ok (.goto (-27), 3) := by decide +kernel
theorem dX9_renderScore_97 : decode cX9_renderScore 97 = .ok (.iinc 2 1, 3) := by decide +kernel
theorem dX9_renderScore_100 : decode cX9_renderScore 100 = .ok (.goto (-55), 3) := by decide +kernel
theorem dX9_renderScore_103 : decode cX9_renderScore 103 = .ok (.aload_n 0, 1) := by decide +kernel
theorem dX9_renderScore_104 : decode cX9_renderScore 104 = .ok (.getfield 214, 3) := by decide +kernel
theorem dX9_renderScore_107 : decode cX9_renderScore 107 = .ok (.ireturn, 1) := by decide +kernel
theorem dX9_renderMask_0 : decode cX9_renderMask 0 = .ok (.aload_n 0, 1) := by decide +kernel
theorem dX9_renderMask_1 : decode cX9_renderMask 1 = .ok (.iconst 0, 1) := by decide +kernel
theorem dX9_renderMask_2 : decode cX9_renderMask 2 = .ok (.putfield 1, 3) := by decide +kernel
theorem dX9_renderMask_5 : decode cX9_renderMask 5 = .ok (.aload_n 0, 1) := by decide +kernel
theorem dX9_renderMask_6 : decode cX9_renderMask 6 = .ok (.iload_n 1, 1) := by decide +kernel
theorem dX9_renderMask_7 : decode cX9_renderMask 7 = .ok (.invokevirtual 69, 3) := by decide +kernel
theorem dX9_renderMask_10 : decode cX9_renderMask 10 = .ok (.ifCond .ne 9, 3) := by decide +kernel
theorem dX9_renderMask_13 : decode cX9_renderMask 13 = .ok (.aload_n 0, 1) := by decide +kernel
theorem dX9_renderMask_14 : decode cX9_renderMask 14 = .ok (.iconst 1, 1) := by decide +kernel
theorem dX9_renderMask_15 : decode cX9_renderMask 15 = .ok (.invokevirtual 87, 3) := by decide +kernel
theorem dX9_renderMask_18 : decode cX9_renderMask 18 = .ok (.ireturn, 1) := by decide +kernel
theorem dX9_renderMask_19 : decode cX9_renderMask 19 = .ok (.aload_n 0, 1) := by decide +kernel
theorem dX9_renderMask_20 : decode cX9_renderMask 20 = .ok (.iconst 0, 1) := by decide +kernel
theorem dX9_renderMask_21 : decode cX9_renderMask 21 = .ok (.putfield 214, 3) := by decide +kernel
theorem dX9_renderMask_24 : decode cX9_renderMask 24 = .ok (.iconst 0, 1) := by decide +kernel
theorem dX9_renderMask_25 : decode cX9_renderMask 25 = .ok (.istore_n 2, 1) := by decide +kernel
theorem dX9_renderMask_26 : decode cX9_renderMask 26 = .ok (.iload_n 2, 1) := by decide +kernel
theorem dX9_renderMask_27 : decode cX9_renderMask 27 = .ok (.aload_n 0, 1) := by decide +kernel
theorem dX9_renderMask_28 : decode cX9_renderMask 28 = .ok (.iload_n 1, 1) := by decide +kernel
theorem dX9_renderMask_29 : decode cX9_renderMask 29 = .ok (.iconst 2, 1) := by decide +kernel
theorem dX9_renderMask_30 : decode cX9_renderMask 30 = .ok (.invokevirtual 61, 3) := by decide +kernel
theorem dX9_renderMask_33 : decode cX9_renderMask 33 = .ok (.if_icmp .ge 29, 3) := by decide +kernel
theorem dX9_renderMask_36 : decode cX9_renderMask 36 = .ok (.aload_n 0, 1) := by decide +kernel
theorem dX9_renderMask_37 : decode cX9_renderMask 37 = .ok (.aload_n 0, 1) := by decide +kernel
theorem dX9_renderMask_38 : decode cX9_renderMask 38 = .ok (.iload_n 1, 1) := by decide +kernel
theorem dX9_renderMask_39 : decode cX9_renderMask 39 = .ok (.iload_n 2, 1) := by decide +kernel
theorem dX9_renderMask_40 : decode cX9_renderMask 40 = .ok (.invokevirtual 113, 3) := by decide +kernel
theorem dX9_renderMask_43 : decode cX9_renderMask 43 = .ok (.ifCond .eq 8, 3) := by decide +kernel
theorem dX9_renderMask_46 : decode cX9_renderMask 46 = .ok (.bipush 120, 2) := by decide +kernel
theorem dX9_renderMask_48 : decode cX9_renderMask 48 = .ok (.goto 5, 3) := by decide +kernel
theorem dX9_renderMask_51 : decode cX9_renderMask 51 = .ok (.bipush 46, 2) := by decide +kernel
theorem dX9_renderMask_53 : decode cX9_renderMask 53 = .ok (.invokevirtual 217, 3) := by decide +kernel
theorem dX9_renderMask_56 : decode cX9_renderMask 56 = .ok (.iinc 2 1, 3) := by decide +kernel
theorem dX9_renderMask_59 : decode cX9_renderMask 59 = .ok (.goto (-33), 3) := by decide +kernel
theorem dX9_renderMask_62 : decode cX9_renderMask 62 = .ok (.aload_n 0, 1) := by decide +kernel
theorem dX9_renderMask_63 : decode cX9_renderMask 63 = .ok (.bipush 102, 2) := by decide +kernel
theorem dX9_renderMask_65 : decode cX9_renderMask 65 = .ok (.invokevirtual 217, 3) := by decide +kernel
theorem dX9_renderMask_68 : decode cX9_renderMask 68 = .ok (.aload_n 0, 1) := by decide +kernel
theorem dX9_renderMask_69 : decode cX9_renderMask 69 = .ok (.bipush 48, 2) := by decide +kernel
theorem dX9_renderMask_71 : decode cX9_renderMask 71 = .ok (.aload_n 0, 1) := by decide +kernel
theorem dX9_renderMask_72 : decode cX9_renderMask 72 = .ok (.iload_n 1, 1) := by decide +kernel
theorem dX9_renderMask_73 : decode cX9_renderMask 73 = .ok (.iconst 4, 1) := by decide +kernel
theorem dX9_renderMask_74 : decode cX9_renderMask 74 = .ok (.invokevirtual 61, 3) := by decide +kernel
theorem dX9_renderMask_77 : decode cX9_renderMask 77 = .ok (.iadd, 1) := by decide +kernel
theorem dX9_renderMask_78 : decode cX9_renderMask 78 = .ok (.invokevirtual 217, 3) := by decide +kernel
theorem dX9_renderMask_81 : decode cX9_renderMask 81 = .ok (.aload_n 0, 1) := by decide +kernel
theorem dX9_renderMask_82 : decode cX9_renderMask 82 = .ok (.iload_n 1, 1) := by decide +kernel
theorem dX9_renderMask_83 : decode cX9_renderMask 83 = .ok (.iconst 5, 1) := by decide +kernel
theorem dX9_renderMask_84 : decode cX9_renderMask 84 = .ok (.invokevirtual 61, 3) := by decide +kernel
theorem dX9_renderMask_87 : decode cX9_renderMask 87 = .ok (.ifCond .le 22, 3) := by decide +kernel
theorem dX9_renderMask_90 : decode cX9_renderMask 90 = .ok (.aload_n 0, 1) := by decide +kernel
theorem dX9_renderMask_91 : decode cX9_renderMask 91 = .ok (.bipush 114, 2) := by decide +kernel
theorem dX9_renderMask_93 : decode cX9_renderMask 93 = .ok (.invokevirtual 217, 3) := by decide +kernel
theorem dX9_renderMask_96 : decode cX9_renderMask 96 = .ok (.aload_n 0, 1) := by decide +kernel
theorem dX9_renderMask_97 : decode cX9_renderMask 97 = .ok (.bipush 48, 2) := by decide +kernel
theorem dX9_renderMask_99 : decode cX9_renderMask 99 = .ok (.aload_n 0, 1) := by decide +kernel
theorem dX9_renderMask_100 : decode cX9_renderMask 100 = .ok (.iload_n 1, 1) := by decide +kernel
theorem dX9_renderMask_101 : decode cX9_renderMask 101 = .ok (.iconst 5, 1) := by decide +kernel
theorem dX9_renderMask_102 : decode cX9_renderMask 102 = .ok (.invokevirtual 61, 3) := by decide +kernel
theorem dX9_renderMask_105 : decode cX9_renderMask 105 = .ok (.iadd, 1) := by decide +kernel
theorem dX9_renderMask_106 : decode cX9_renderMask 106 = .ok (.invokevirtual 217, 3) := by decide +kernel
theorem dX9_renderMask_109 : decode cX9_renderMask 109 = .ok (.aload_n 0, 1) := by decide +kernel
theorem dX9_renderMask_110 : decode cX9_renderMask 110 = .ok (.getfield 214, 3) := by decide +kernel
theorem dX9_renderMask_113 : decode cX9_renderMask 113 = .ok (.ireturn, 1) := by decide +kernel
theorem dX9_outputAt_0 : decode cX9_outputAt 0 = .ok (.aload_n 0, 1) := by decide +kernel
theorem dX9_outputAt_1 : decode cX9_outputAt 1 = .ok (.iconst 0, 1) := by decide +kernel
theorem dX9_outputAt_2 : decode cX9_outputAt 2 = .ok (.putfield 1, 3) := by decide +kernel
theorem dX9_outputAt_5 : decode cX9_outputAt 5 = .ok (.iload_n 1, 1) := by decide +kernel
theorem dX9_outputAt_6 : decode cX9_outputAt 6 = .ok (.iconst 0, 1) := by decide +kernel
theorem dX9_outputAt_7 : decode cX9_outputAt 7 = .ok (.aload_n 0, 1) := by decide +kernel
theorem dX9_outputAt_8 : decode cX9_outputAt 8 = .ok (.getfield 214, 3) := by decide +kernel
theorem dX9_outputAt_11 : decode cX9_outputAt 11 = .ok (.iconst 1, 1) := by decide +kernel
theorem dX9_outputAt_12 : decode cX9_outputAt 12 = .ok (.isub, 1) := by decide +kernel
theorem dX9_outputAt_13 : decode cX9_outputAt 13 = .ok (.invokestatic 57, 3) := by decide +kernel
theorem dX9_outputAt_16 : decode cX9_outputAt 16 = .ok (.ifCond .eq 10, 3) := by decide +kernel
theorem dX9_outputAt_19 : decode cX9_outputAt 19 = .ok (.aload_n 0, 1) := by decide +kernel
theorem dX9_outputAt_20 : decode cX9_outputAt 20 = .ok (.getfield 29, 3) := by decide +kernel
theorem dX9_outputAt_23 : decode cX9_outputAt 23 = .ok (.iload_n 1, 1) := by decide +kernel
theorem dX9_outputAt_24 : decode cX9_outputAt 24 = .ok (.caload, 1) := by decide +kernel
theorem dX9_outputAt_25 : decode cX9_outputAt 25 = .ok (.ireturn, 1) := by decide +kernel
theorem dX9_outputAt_26 : decode cX9_outputAt 26 = .ok (.aload_n 0, 1) := by decide +kernel
theorem dX9_outputAt_27 : decode cX9_outputAt 27 = .ok (.iconst 1, 1) := by decide +kernel
theorem dX9_outputAt_28 : decode cX9_outputAt 28 = .ok (.invokevirtual 87, 3) := by decide +kernel
theorem dX9_outputAt_31 : decode cX9_outputAt 31 = .ok (.i2c, 1) := by decide +kernel
theorem dX9_outputAt_32 : decode cX9_outputAt 32 = .ok (.ireturn, 1) := by decide +kernel
theorem dX9_type_0 : decode cX9_type 0 = .ok (.aload_n 0, 1) := by decide +kernel
theorem dX9_type_1 : decode cX9_type 1 = .ok (.iconst 0, 1) := by decide +kernel
theorem dX9_type_2 : decode cX9_type 2 = .ok (.putfield 1, 3) := by decide +kernel
theorem dX9_type_5 : decode cX9_type 5 = .ok (.iload_n 1, 1) := by decide +kernel
theorem dX9_type_6 : decode cX9_type 6 = .ok (.bipush 32, 2) := by decide +kernel
theorem dX9_type_8 : decode cX9_type 8 = .ok (.bipush 126, 2) := by decide +kernel
theorem dX9_type_10 : decode cX9_type 10 = .ok (.invokestatic 57, 3) := by decide +kernel
theorem dX9_type_13 : decode cX9_type 13 = .ok (.ifCond .ne 9, 3) := by decide +kernel
theorem dX9_type_16 : decode cX9_type 16 = .ok (.aload_n 0, 1) := by decide +kernel
theorem dX9_type_17 : decode cX9_type 17 = .ok (.iconst 1, 1) := by decide +kernel
theorem dX9_type_18 : decode cX9_type 18 = .ok (.invokevirtual 87, 3) := by decide +kernel
theorem dX9_type_21 : decode cX9_type 21 = .ok (.ireturn, 1) := by decide +kernel
theorem dX9_type_22 : decode cX9_type 22 = .ok (.aload_n 0, 1) := by decide +kernel
theorem dX9_type_23 : decode cX9_type 23 = .ok (.getfield 220, 3) := by decide +kernel
theorem dX9_type_26 : decode cX9_type 26 = .ok (.bipush 60, 2) := by decide +kernel
theorem dX9_type_28 : decode cX9_type 28 = .ok (.if_icmp .ne 9, 3) := by decide +kernel
theorem dX9_type_31 : decode cX9_type 31 = .ok (.aload_n 0, 1) := by decide +kernel
theorem dX9_type_32 : decode cX9_type 32 = .ok (.iconst 2, 1) := by decide +kernel
theorem dX9_type_33 : decode cX9_type 33 = .ok (.invokevirtual 87, 3) := by decide +kernel
theorem dX9_type_36 : decode cX9_type 36 = .ok (.ireturn, 1) := by decide +kernel
theorem dX9_type_37 : decode cX9_type 37 = .ok (.aload_n 0, 1) := by decide +kernel
theorem dX9_type_38 : decode cX9_type 38 = .ok (.getfield 33, 3) := by decide +kernel
theorem dX9_type_41 : decode cX9_type 41 = .ok (.aload_n 0, 1) := by decide +kernel
theorem dX9_type_42 : decode cX9_type 42 = .ok (.getfield 220, 3) := by decide +kernel
theorem dX9_type_45 : decode cX9_type 45 = .ok (.iload_n 1, 1) := by decide +kernel
theorem dX9_type_46 : decode cX9_type 46 = .ok (.castore, 1) := by decide +kernel
theorem dX9_type_47 : decode cX9_type 47 = .ok (.aload_n 0, 1) := by decide +kernel
theorem dX9_type_48 : decode cX9_type 48 = .ok (.dup, 1) := by decide +kernel
theorem dX9_type_49 : decode cX9_type 49 = .ok (.getfield 220, 3) := by decide +kernel
theorem dX9_type_52 : decode cX9_type 52 = .ok (.iconst 1, 1) := by decide +kernel
theorem dX9_type_53 : decode cX9_type 53 = .ok (.iadd, 1) := by decide +kernel
theorem dX9_type_54 : decode cX9_type 54 = .ok (.putfield 220, 3) := by decide +kernel
theorem dX9_type_57 : decode cX9_type 57 = .ok (.aload_n 0, 1) := by decide +kernel
theorem dX9_type_58 : decode cX9_type 58 = .ok (.getfield 220, 3) := by decide +kernel
theorem dX9_type_61 : decode cX9_type 61 = .ok (.ireturn, 1) := by decide +kernel
theorem dX9_nextChar_0 : decode cX9_nextChar 0 = .ok (.aload_n 0, 1) := by decide +kernel
theorem dX9_nextChar_1 : decode cX9_nextChar 1 = .ok (.getfield 223, 3) := by decide +kernel
theorem dX9_nextChar_4 : decode cX9_nextChar 4 = .ok (.aload_n 0, 1) := by decide +kernel
theorem dX9_nextChar_5 : decode cX9_nextChar 5 = .ok (.getfield 220, 3) := by decide +kernel
theorem dX9_nextChar_8 : decode cX9_nextChar 8 = .ok (.if_icmp .ge 15, 3) := by decide +kernel
theorem dX9_nextChar_11 : decode cX9_nextChar 11 = .ok (.aload_n 0, 1) := by decide +kernel
theorem dX9_nextChar_12 : decode cX9_nextChar 12 = .ok (.getfield 33, 3) := by decide +kernel
theorem dX9_nextChar_15 : decode cX9_nextChar 15 = .ok (.aload_n 0, 1) := by decide +kernel
theorem dX9_nextChar_16 : decode cX9_nextChar 16 = .ok (.getfield 223, 3) := by decide +kernel
theorem dX9_nextChar_19 : decode cX9_nextChar 19 = .ok (.caload, 1) := by decide +kernel
theorem dX9_nextChar_20 : decode cX9_nextChar 20 = .ok (.goto 4, 3) := by decide +kernel
theorem dX9_nextChar_23 : decode cX9_nextChar 23 = .ok (.iconst (-1), 1) := by decide +kernel
theorem dX9_nextChar_24 : decode cX9_nextChar 24 = .ok (.ireturn, 1) := by decide +kernel
theorem dX9_reads_0 : decode cX9_reads 0 = .ok (.aload_n 0, 1) := by decide +kernel
theorem dX9_reads_1 : decode cX9_reads 1 = .ok (.invokevirtual 226, 3) := by decide +kernel
theorem dX9_reads_4 : decode cX9_reads 4 = .ok (.iload_n 1, 1) := by decide +kernel
theorem dX9_reads_5 : decode cX9_reads 5 = .ok (.if_icmp .eq 5, 3) := by decide +kernel
theorem dX9_reads_8 : decode cX9_reads 8 = .ok (.iconst 0, 1) := by decide +kernel
theorem dX9_reads_9 : decode cX9_reads 9 = .ok (.ireturn, 1) := by decide +kernel
theorem dX9_reads_10 : decode cX9_reads 10 = .ok (.aload_n 0, 1) := by decide +kernel
theorem dX9_reads_11 : decode cX9_reads 11 = .ok (.dup, 1) := by decide +kernel
theorem dX9_reads_12 : decode cX9_reads 12 = .ok (.getfield 223, 3) := by decide +kernel
theorem dX9_reads_15 : decode cX9_reads 15 = .ok (.iconst 1, 1) := by decide +kernel
theorem dX9_reads_16 : decode cX9_reads 16 = .ok (.iadd, 1) := by decide +kernel
theorem dX9_reads_17 : decode cX9_reads 17 = .ok (.putfield 223, 3) := by decide +kernel
theorem dX9_reads_20 : decode cX9_reads 20 = .ok (.iconst 1, 1) := by decide +kernel
theorem dX9_reads_21 : decode cX9_reads 21 = .ok (.ireturn, 1) := by decide +kernel
theorem dX9_readsDigit_0 : decode cX9_readsDigit 0 = .ok (.aload_n 0, 1) := by decide +kernel
theorem dX9_readsDigit_1 : decode cX9_readsDigit 1 = .ok (.invokevirtual 226, 3) := by decide +kernel
theorem dX9_readsDigit_4 : decode cX9_readsDigit 4 = .ok (.bipush 48, 2) := by decide +kernel
theorem dX9_readsDigit_6 : decode cX9_readsDigit 6 = .ok (.bipush 57, 2) := by decide +kernel
theorem dX9_readsDigit_8 : decode cX9_readsDigit 8 = .ok (.invokestatic 57, 3) := by decide +kernel
theorem dX9_readsDigit_11 : decode cX9_readsDigit 11 = .ok (.ifCond .ne 5, 3) := by decide +kernel
theorem dX9_readsDigit_14 : decode cX9_readsDigit 14 = .ok (.iconst 0, 1) := by decide +kernel
theorem dX9_readsDigit_15 : decode cX9_readsDigit 15 = .ok (.ireturn, 1) := by decide +kernel
theorem dX9_readsDigit_16 : decode cX9_readsDigit 16 = .ok (.aload_n 0, 1) := by decide +kernel
theorem dX9_readsDigit_17 : decode cX9_readsDigit 17 = .ok (.getfield 42, 3) := by decide +kernel
theorem dX9_readsDigit_20 : decode cX9_readsDigit 20 = .ok (.iload_n 1, 1) := by decide +kernel
theorem dX9_readsDigit_21 : decode cX9_readsDigit 21 = .ok (.aload_n 0, 1) := by decide +kernel
theorem dX9_readsDigit_22 : decode cX9_readsDigit 22 = .ok (.invokevirtual 226, 3) := by decide +kernel
theorem dX9_readsDigit_25 : decode cX9_readsDigit 25 = .ok (.bipush 48, 2) := by decide +kernel
theorem dX9_readsDigit_27 : decode cX9_readsDigit 27 = .ok (.isub, 1) := by decide +kernel
theorem dX9_readsDigit_28 : decode cX9_readsDigit 28 = .ok (.iastore, 1) := by decide +kernel
theorem dX9_readsDigit_29 : decode cX9_readsDigit 29 = .ok (.aload_n 0, 1) := by decide +kernel
theorem dX9_readsDigit_30 : decode cX9_readsDigit 30 = .ok (.dup, 1) := by decide +kernel
theorem dX9_readsDigit_31 : decode cX9_readsDigit 31 = .ok (.getfield 223, 3) := by decide +kernel
theorem dX9_readsDigit_34 : decode cX9_readsDigit 34 = .ok (.iconst 1, 1) := by decide +kernel
theorem dX9_readsDigit_35 : decode cX9_readsDigit 35 = .ok (.iadd, 1) := by decide +kernel
theorem dX9_readsDigit_36 : decode cX9_readsDigit 36 = .ok (.putfield 223, 3) := by decide +kernel
theorem dX9_readsDigit_39 : decode cX9_readsDigit 39 = .ok (.iconst 1, 1) := by decide +kernel
theorem dX9_readsDigit_40 : decode cX9_readsDigit 40 = .ok (.ireturn, 1) := by decide +kernel
theorem dX9_readsNumber_0 : decode cX9_readsNumber 0 = .ok (.aload_n 0, 1) := by decide +kernel
theorem dX9_readsNumber_1 : decode cX9_readsNumber 1 = .ok (.iload_n 1, 1) := by decide +kernel
theorem dX9_readsNumber_2 : decode cX9_readsNumber 2 = .ok (.invokevirtual 229, 3) := by decide +kernel
theorem dX9_readsNumber_5 : decode cX9_readsNumber 5 = .ok (.ifCond .ne 5, 3) := by decide +kernel
theorem dX9_readsNumber_8 : decode cX9_readsNumber 8 = .ok (.iconst 0, 1) := by decide +kernel
theorem dX9_readsNumber_9 : decode cX9_readsNumber 9 = .ok (.ireturn, 1) := by decide +kernel
theorem dX9_readsNumber_10 : decode cX9_readsNumber 10 = .ok (.aload_n 0, 1) := by decide +kernel
theorem dX9_readsNumber_11 : decode cX9_readsNumber 11 = .ok (.invokevirtual 226, 3) := by decide +kernel
theorem dX9_readsNumber_14 : decode cX9_readsNumber 14 = .ok (.bipush 48, 2) := by decide +kernel
theorem dX9_readsNumber_16 : decode cX9_readsNumber 16 = .ok (.bipush 57, 2) := by decide +kernel
theorem dX9_readsNumber_18 : decode cX9_readsNumber 18 = .ok (.invokestatic 57, 3) := by decide +kernel
theorem dX9_readsNumber_21 : decode cX9_readsNumber 21 = .ok (.ifCond .ne 5, 3) := by decide +kernel
theorem dX9_readsNumber_24 : decode cX9_readsNumber 24 = .ok (.iconst 1, 1) := by decide +kernel
theorem dX9_readsNumber_25 : decode cX9_readsNumber 25 = .ok (.ireturn, 1) := by decide +kernel
theorem dX9_readsNumber_26 : decode cX9_readsNumber 26 = .ok (.aload_n 0, 1) := by decide +kernel
theorem dX9_readsNumber_27 : decode cX9_readsNumber 27 = .ok (.getfield 42, 3) := by decide +kernel
theorem dX9_readsNumber_30 : decode cX9_readsNumber 30 = .ok (.iload_n 1, 1) := by decide +kernel
theorem dX9_readsNumber_31 : decode cX9_readsNumber 31 = .ok (.bipush 10, 2) := by decide +kernel
theorem dX9_readsNumber_33 : decode cX9_readsNumber 33 = .ok (.aload_n 0, 1) := by decide +kernel
theorem dX9_readsNumber_34 : decode cX9_readsNumber 34 = .ok (.getfield 42, 3) := by decide +kernel
theorem dX9_readsNumber_37 : decode cX9_readsNumber 37 = .ok (.iload_n 1, 1) := by decide +kernel
theorem dX9_readsNumber_38 : decode cX9_readsNumber 38 = .ok (.iaload, 1) := by decide +kernel
theorem dX9_readsNumber_39 : decode cX9_readsNumber 39 = .ok (.imul, 1) := by decide +kernel
theorem dX9_readsNumber_40 : decode cX9_readsNumber 40 = .ok (.aload_n 0, 1) := by decide +kernel
theorem dX9_readsNumber_41 : decode cX9_readsNumber 41 = .ok (.invokevirtual 226, 3) := by decide +kernel
theorem dX9_readsNumber_44 : decode cX9_readsNumber 44 = .ok (.iadd, 1) := by decide +kernel
theorem dX9_readsNumber_45 : decode cX9_readsNumber 45 = .ok (.bipush 48, 2) := by decide +kernel
theorem dX9_readsNumber_47 : decode cX9_readsNumber 47 = .ok (.isub, 1) := by decide +kernel
theorem dX9_readsNumber_48 : decode cX9_readsNumber 48 = .ok (.iastore, 1) := by decide +kernel
theorem dX9_readsNumber_49 : decode cX9_readsNumber 49 = .ok (.aload_n 0, 1) := by decide +kernel
theorem dX9_readsNumber_50 : decode cX9_readsNumber 50 = .ok (.dup, 1) := by decide +kernel
theorem dX9_readsNumber_51 : decode cX9_readsNumber 51 = .ok (.getfield 223, 3) := by decide +kernel
theorem dX9_readsNumber_54 : decode cX9_readsNumber 54 = .ok (.iconst 1, 1) := by decide +kernel
theorem dX9_readsNumber_55 : decode cX9_readsNumber 55 = .ok (.iadd, 1) := by decide +kernel
theorem dX9_readsNumber_56 : decode cX9_readsNumber 56 = .ok (.putfield 223, 3) := by decide +kernel
theorem dX9_readsNumber_59 : decode cX9_readsNumber 59 = .ok (.iconst 1, 1) := by decide +kernel
theorem dX9_readsNumber_60 : decode cX9_readsNumber 60 = .ok (.ireturn, 1) := by decide +kernel
theorem dX9_readsSign_0 : decode cX9_readsSign 0 = .ok (.aload_n 0, 1) := by decide +kernel
theorem dX9_readsSign_1 : decode cX9_readsSign 1 = .ok (.getfield 42, 3) := by decide +kernel
theorem dX9_readsSign_4 : decode cX9_readsSign 4 = .ok (.iload_n 1, 1) := by decide +kernel
theorem dX9_readsSign_5 : decode cX9_readsSign 5 = .ok (.aload_n 0, 1) := by decide +kernel
theorem dX9_readsSign_6 : decode cX9_readsSign 6 = .ok (.invokevirtual 226, 3) := by decide +kernel
theorem dX9_readsSign_9 : decode cX9_readsSign 9 = .ok (.bipush 43, 2) := by decide +kernel
theorem dX9_readsSign_11 : decode cX9_readsSign 11 = .ok (.if_icmp .ne 7, 3) := by decide +kernel
theorem dX9_readsSign_14 : decode cX9_readsSign 14 = .ok (.iconst 1, 1) := by decide +kernel
theorem dX9_readsSign_15 : decode cX9_readsSign 15 = .ok (.goto 4, 3) := by decide +kernel
theorem dX9_readsSign_18 : decode cX9_readsSign 18 = .ok (.iconst 0, 1) := by decide +kernel
theorem dX9_readsSign_19 : decode cX9_readsSign 19 = .ok (.iastore, 1) := by decide +kernel
theorem dX9_readsSign_20 : decode cX9_readsSign 20 = .ok (.aload_n 0, 1) := by decide +kernel
theorem dX9_readsSign_21 : decode cX9_readsSign 21 = .ok (.bipush 43, 2) := by decide +kernel
theorem dX9_readsSign_23 : decode cX9_readsSign 23 = .ok (.invokevirtual 232, 3) := by decide +kernel
theorem dX9_readsSign_26 : decode cX9_readsSign 26 = .ok (.ifCond .ne 12, 3) := by decide +kernel
theorem dX9_readsSign_29 : decode cX9_readsSign 29 = .ok (.aload_n 0, 1) := by decide +kernel
theorem dX9_readsSign_30 : decode cX9_readsSign 30 = .ok (.bipush 45, 2) := by decide +kernel
theorem dX9_readsSign_32 : decode cX9_readsSign 32 = .ok (.invokevirtual 232, 3) := by decide +kernel
theorem dX9_readsSign_35 : decode cX9_readsSign 35 = .ok (.ifCond .eq 7, 3) := by decide +kernel
theorem dX9_readsSign_38 : decode cX9_readsSign 38 = .ok (.iconst 1, 1) := by decide +kernel
theorem dX9_readsSign_39 : decode cX9_readsSign 39 = .ok (.goto 4, 3) := by decide +kernel
theorem dX9_readsSign_42 : decode cX9_readsSign 42 = .ok (.iconst 0, 1) := by decide +kernel
theorem dX9_readsSign_43 : decode cX9_readsSign 43 = .ok (.ireturn, 1) := by decide +kernel
theorem dX9_readsAdd_0 : decode cX9_readsAdd 0 = .ok (.aload_n 0, 1) := by decide +kernel
theorem dX9_readsAdd_1 : decode cX9_readsAdd 1 = .ok (.bipush 100, 2) := by decide +kernel
theorem dX9_readsAdd_3 : decode cX9_readsAdd 3 = .ok (.invokevirtual 232, 3) := by decide +kernel
theorem dX9_readsAdd_6 : decode cX9_readsAdd 6 = .ok (.ifCond .eq 21, 3) := by decide +kernel
theorem dX9_readsAdd_9 : decode cX9_readsAdd 9 = .ok (.aload_n 0, 1) := by decide +kernel
theorem dX9_readsAdd_10 : decode cX9_readsAdd 10 = .ok (.bipush 100, 2) := by decide +kernel
theorem dX9_readsAdd_12 : decode cX9_readsAdd 12 = .ok (.invokevirtual 232, 3) := by decide +kernel
theorem dX9_readsAdd_15 : decode cX9_readsAdd 15 = .ok (.ifCond .eq 12, 3) := by decide +kernel
theorem dX9_readsAdd_18 : decode cX9_readsAdd 18 = .ok (.aload_n 0, 1) := by decide +kernel
theorem dX9_readsAdd_19 : decode cX9_readsAdd 19 = .ok (.bipush 32, 2) := by decide +kernel
theorem dX9_readsAdd_21 : decode cX9_readsAdd 21 = .ok (.invokevirtual 232, 3) := by decide +kernel
theorem dX9_readsAdd_24 : decode cX9_readsAdd 24 = .ok (.ifCond .ne 5, 3) := by decide +kernel
theorem dX9_readsAdd_27 : decode cX9_readsAdd 27 = .ok (.iconst 0, 1) := by decide +kernel
theorem dX9_readsAdd_28 : decode cX9_readsAdd 28 = .ok (.ireturn, 1) := by decide +kernel
theorem dX9_readsAdd_29 : decode cX9_readsAdd 29 = .ok (.aload_n 0, 1) := by decide +kernel
theorem dX9_readsAdd_30 : decode cX9_readsAdd 30 = .ok (.getfield 42, 3) := by decide +kernel
theorem dX9_readsAdd_33 : decode cX9_readsAdd 33 = .ok (.iconst 0, 1) := by decide +kernel
theorem dX9_readsAdd_34 : decode cX9_readsAdd 34 = .ok (.aload_n 0, 1) := by decide +kernel
theorem dX9_readsAdd_35 : decode cX9_readsAdd 35 = .ok (.invokevirtual 226, 3) := by decide +kernel
theorem dX9_readsAdd_38 : decode cX9_readsAdd 38 = .ok (.iastore, 1) := by decide +kernel
theorem dX9_readsAdd_39 : decode cX9_readsAdd 39 = .ok (.aload_n 0, 1) := by decide +kernel
theorem dX9_readsAdd_40 : decode cX9_readsAdd 40 = .ok (.bipush 115, 2) := by decide +kernel
theorem dX9_readsAdd_42 : decode cX9_readsAdd 42 = .ok (.invokevirtual 232, 3) := by decide +kernel
theorem dX9_readsAdd_45 : decode cX9_readsAdd 45 = .ok (.ifCond .ne 23, 3) := by decide +kernel
theorem dX9_readsAdd_48 : decode cX9_readsAdd 48 = .ok (.aload_n 0, 1) := by decide +kernel
theorem dX9_readsAdd_49 : decode cX9_readsAdd 49 = .ok (.bipush 119, 2) := by decide +kernel
theorem dX9_readsAdd_51 : decode cX9_readsAdd 51 = .ok (.invokevirtual 232, 3) := by decide +kernel
theorem dX9_readsAdd_54 : decode cX9_readsAdd 54 = .ok (.ifCond .ne 14, 3) := by decide +kernel
theorem dX9_readsAdd_57 : decode cX9_readsAdd 57 = .ok (.aload_n 0, 1) := by decide +kernel
theorem dX9_readsAdd_58 : decode cX9_readsAdd 58 = .ok (.bipush 100, 2) := by decide +kernel
theorem dX9_readsAdd_60 : decode cX9_readsAdd 60 = .ok (.invokevirtual 232, 3) := by decide +kernel
theorem dX9_readsAdd_63 : decode cX9_readsAdd 63 = .ok (.ifCond .ne 5, 3) := by decide +kernel
theorem dX9_readsAdd_66 : decode cX9_readsAdd 66 = .ok (.iconst 0, 1) := by decide +kernel
theorem dX9_readsAdd_67 : decode cX9_readsAdd 67 = .ok (.ireturn, 1) := by decide +kernel
theorem dX9_readsAdd_68 : decode cX9_readsAdd 68 = .ok (.aload_n 0, 1) := by decide +kernel
theorem dX9_readsAdd_69 : decode cX9_readsAdd 69 = .ok (.iconst 1, 1) := by decide +kernel
theorem dX9_readsAdd_70 : decode cX9_readsAdd 70 = .ok (.invokevirtual 229, 3) := by decide +kernel
theorem dX9_readsAdd_73 : decode cX9_readsAdd 73 = .ok (.ifCond .eq 15, 3) := by decide +kernel
theorem dX9_readsAdd_76 : decode cX9_readsAdd 76 = .ok (.aload_n 0, 1) := by decide +kernel
theorem dX9_readsAdd_77 : decode cX9_readsAdd 77 = .ok (.iconst 2, 1) := by decide +kernel
theorem dX9_readsAdd_78 : decode cX9_readsAdd 78 = .ok (.invokevirtual 229, 3) := by decide +kernel
theorem dX9_readsAdd_81 : decode cX9_readsAdd 81 = .ok (.ifCond .eq 7, 3) := by decide +kernel
theorem dX9_readsAdd_84 : decode cX9_readsAdd 84 = .ok (.iconst 1, 1) := by decide +kernel
theorem dX9_readsAdd_85 : decode cX9_readsAdd 85 = .ok (.goto 4, 3) := by decide +kernel
theorem dX9_readsAdd_88 : decode cX9_readsAdd 88 = .ok (.iconst 0, 1) := by decide +kernel
theorem dX9_readsAdd_89 : decode cX9_readsAdd 89 = .ok (.ireturn, 1) := by decide +kernel
theorem dX9_readsNote_0 : decode cX9_readsNote 0 = .ok (.aload_n 0, 1) := by decide +kernel
theorem dX9_readsNote_1 : decode cX9_readsNote 1 = .ok (.bipush 111, 2) := by decide +kernel
theorem dX9_readsNote_3 : decode cX9_readsNote 3 = .ok (.invokevirtual 232, 3) := by decide +kernel
theorem dX9_readsNote_6 : decode cX9_readsNote 6 = .ok (.ifCond .eq 47, 3) := by decide +kernel
theorem dX9_readsNote_9 : decode cX9_readsNote 9 = .ok (.aload_n 0, 1) := by decide +kernel
theorem dX9_readsNote_10 : decode cX9_readsNote 10 = .ok (.bipush 116, 2) := by decide +kernel
theorem dX9_readsNote_12 : decode cX9_readsNote 12 = .ok (.invokevirtual 232, 3) := by decide +kernel
theorem dX9_readsNote_15 : decode cX9_readsNote 15 = .ok (.ifCond .eq 38, 3) := by decide +kernel
theorem dX9_readsNote_18 : decode cX9_readsNote 18 = .ok (.aload_n 0, 1) := by decide +kernel
theorem dX9_readsNote_19 : decode cX9_readsNote 19 = .ok (.bipush 101, 2) := by decide +kernel
theorem dX9_readsNote_21 : decode cX9_readsNote 21 = .ok (.invokevirtual 232, 3) := by decide +kernel
theorem dX9_readsNote_24 : decode cX9_readsNote 24 = .ok (.ifCond .eq 29, 3) := by decide +kernel
theorem dX9_readsNote_27 : decode cX9_readsNote 27 = .ok (.aload_n 0, 1) := by decide +kernel
theorem dX9_readsNote_28 : decode cX9_readsNote 28 = .ok (.bipush 32, 2) := by decide +kernel
theorem dX9_readsNote_30 : decode cX9_readsNote 30 = .ok (.invokevirtual 232, 3) := by decide +kernel
theorem dX9_readsNote_33 : decode cX9_readsNote 33 = .ok (.ifCond .eq 20, 3) := by decide +kernel
theorem dX9_readsNote_36 : decode cX9_readsNote 36 = .ok (.aload_n 0, 1) := by decide +kernel
theorem dX9_readsNote_37 : decode cX9_readsNote 37 = .ok (.iconst 0, 1) := by decide +kernel
theorem dX9_readsNote_38 : decode cX9_readsNote 38 = .ok (.invokevirtual 229, 3) := by decide +kernel
theorem dX9_readsNote_41 : decode cX9_readsNote 41 = .ok (.ifCond .eq 12, 3) := by decide +kernel
theorem dX9_readsNote_44 : decode cX9_readsNote 44 = .ok (.aload_n 0, 1) := by decide +kernel
theorem dX9_readsNote_45 : decode cX9_readsNote 45 = .ok (.bipush 32, 2) := by decide +kernel
theorem dX9_readsNote_47 : decode cX9_readsNote 47 = .ok (.invokevirtual 232, 3) := by decide +kernel
theorem dX9_readsNote_50 : decode cX9_readsNote 50 = .ok (.ifCond .ne 5, 3) := by decide +kernel
theorem dX9_readsNote_53 : decode cX9_readsNote 53 = .ok (.iconst 0, 1) := by decide +kernel
theorem dX9_readsNote_54 : decode cX9_readsNote 54 = .ok (.ireturn, 1) := by decide +kernel
theorem dX9_readsNote_55 : decode cX9_readsNote 55 = .ok (.aload_n 0, 1) := by decide +kernel
theorem dX9_readsNote_56 : decode cX9_readsNote 56 = .ok (.iconst 1, 1) := by decide +kernel
theorem dX9_readsNote_57 : decode cX9_readsNote 57 = .ok (.invokevirtual 229, 3) := by decide +kernel
theorem dX9_readsNote_60 : decode cX9_readsNote 60 = .ok (.ifCond .eq 32, 3) := by decide +kernel
theorem dX9_readsNote_63 : decode cX9_readsNote 63 = .ok (.aload_n 0, 1) := by decide +kernel
theorem dX9_readsNote_64 : decode cX9_readsNote 64 = .ok (.iconst 2, 1) := by decide +kernel
theorem dX9_readsNote_65 : decode cX9_readsNote 65 = .ok (.invokevirtual 229, 3) := by decide +kernel
theorem dX9_readsNote_68 : decode cX9_readsNote 68 = .ok (.ifCond .eq 24, 3) := by decide +kernel
theorem dX9_readsNote_71 : decode cX9_readsNote 71 = .ok (.aload_n 0, 1) := by decide +kernel
theorem dX9_readsNote_72 : decode cX9_readsNote 72 = .ok (.bipush 61, 2) := by decide +kernel
theorem dX9_readsNote_74 : decode cX9_readsNote 74 = .ok (.invokevirtual 232, 3) := by decide +kernel
theorem dX9_readsNote_77 : decode cX9_readsNote 77 = .ok (.ifCond .eq 15, 3) := by decide +kernel
theorem dX9_readsNote_80 : decode cX9_readsNote 80 = .ok (.aload_n 0, 1) := by decide +kernel
theorem dX9_readsNote_81 : decode cX9_readsNote 81 = .ok (.iconst 3, 1) := by decide +kernel
theorem dX9_readsNote_82 : decode cX9_readsNote 82 = .ok (.invokevirtual 229, 3) := by decide +kernel
theorem dX9_readsNote_85 : decode cX9_readsNote 85 = .ok (.ifCond .eq 7, 3) := by decide +kernel
theorem dX9_readsNote_88 : decode cX9_readsNote 88 = .ok (.iconst 1, 1) := by decide +kernel
theorem dX9_readsNote_89 : decode cX9_readsNote 89 = .ok (.goto 4, 3) := by decide +kernel
theorem dX9_readsNote_92 : decode cX9_readsNote 92 = .ok (.iconst 0, 1) := by decide +kernel
theorem dX9_readsNote_93 : decode cX9_readsNote 93 = .ok (.ireturn, 1) := by decide +kernel
theorem dX9_readsMask_0 : decode cX9_readsMask 0 = .ok (.aload_n 0, 1) := by decide +kernel
theorem dX9_readsMask_1 : decode cX9_readsMask 1 = .ok (.bipush 97, 2) := by decide +kernel
theorem dX9_readsMask_3 : decode cX9_readsMask 3 = .ok (.invokevirtual 232, 3) := by decide +kernel
theorem dX9_readsMask_6 : decode cX9_readsMask 6 = .ok (.ifCond .eq 47, 3) := by decide +kernel
theorem dX9_readsMask_9 : decode cX9_readsMask 9 = .ok (.aload_n 0, 1) := by decide +kernel
theorem dX9_readsMask_10 : decode cX9_readsMask 10 = .ok (.bipush 115, 2) := by decide +kernel
theorem dX9_readsMask_12 : decode cX9_readsMask 12 = .ok (.invokevirtual 232, 3) := by decide +kernel
theorem dX9_readsMask_15 : decode cX9_readsMask 15 = .ok (.ifCond .eq 38, 3) := by decide +kernel
theorem dX9_readsMask_18 : decode cX9_readsMask 18 = .ok (.aload_n 0, 1) := by decide +kernel
theorem dX9_readsMask_19 : decode cX9_readsMask 19 = .ok (.bipush 107, 2) := by decide +kernel
theorem dX9_readsMask_21 : decode cX9_readsMask 21 = .ok (.invokevirtual 232, 3) := by decide +kernel
theorem dX9_readsMask_24 : decode cX9_readsMask 24 = .ok (.ifCond .eq 29, 3) := by decide +kernel
theorem dX9_readsMask_27 : decode cX9_readsMask 27 = .ok (.aload_n 0, 1) := by decide +kernel
theorem dX9_readsMask_28 : decode cX9_readsMask 28 = .ok (.bipush 32, 2) := by decide +kernel
theorem dX9_readsMask_30 : decode cX9_readsMask 30 = .ok (.invokevirtual 232, 3) := by decide +kernel
theorem dX9_readsMask_33 : decode cX9_readsMask 33 = .ok (.ifCond .eq 20, 3) := by decide +kernel
theorem dX9_readsMask_36 : decode cX9_readsMask 36 = .ok (.aload_n 0, 1) := by decide +kernel
theorem dX9_readsMask_37 : decode cX9_readsMask 37 = .ok (.iconst 0, 1) := by decide +kernel
theorem dX9_readsMask_38 : decode cX9_readsMask 38 = .ok (.invokevirtual 229, 3) := by decide +kernel
theorem dX9_readsMask_41 : decode cX9_readsMask 41 = .ok (.ifCond .eq 12, 3) := by decide +kernel
theorem dX9_readsMask_44 : decode cX9_readsMask 44 = .ok (.aload_n 0, 1) := by decide +kernel
theorem dX9_readsMask_45 : decode cX9_readsMask 45 = .ok (.bipush 32, 2) := by decide +kernel
theorem dX9_readsMask_47 : decode cX9_readsMask 47 = .ok (.invokevirtual 232, 3) := by decide +kernel
theorem dX9_readsMask_50 : decode cX9_readsMask 50 = .ok (.ifCond .ne 5, 3) := by decide +kernel
theorem dX9_readsMask_53 : decode cX9_readsMask 53 = .ok (.iconst 0, 1) := by decide +kernel
theorem dX9_readsMask_54 : decode cX9_readsMask 54 = .ok (.ireturn, 1) := by decide +kernel
theorem dX9_readsMask_55 : decode cX9_readsMask 55 = .ok (.aload_n 0, 1) := by decide +kernel
theorem dX9_readsMask_56 : decode cX9_readsMask 56 = .ok (.iconst 1, 1) := by decide +kernel
theorem dX9_readsMask_57 : decode cX9_readsMask 57 = .ok (.invokevirtual 229, 3) := by decide +kernel
theorem dX9_readsMask_60 : decode cX9_readsMask 60 = .ok (.ifCond .eq 15, 3) := by decide +kernel
theorem dX9_readsMask_63 : decode cX9_readsMask 63 = .ok (.aload_n 0, 1) := by decide +kernel
theorem dX9_readsMask_64 : decode cX9_readsMask 64 = .ok (.iconst 2, 1) := by decide +kernel
theorem dX9_readsMask_65 : decode cX9_readsMask 65 = .ok (.invokevirtual 235, 3) := by decide +kernel
theorem dX9_readsMask_68 : decode cX9_readsMask 68 = .ok (.ifCond .eq 7, 3) := by decide +kernel
theorem dX9_readsMask_71 : decode cX9_readsMask 71 = .ok (.iconst 1, 1) := by decide +kernel
theorem dX9_readsMask_72 : decode cX9_readsMask 72 = .ok (.goto 4, 3) := by decide +kernel
theorem dX9_readsMask_75 : decode cX9_readsMask 75 = .ok (.iconst 0, 1) := by decide +kernel
theorem dX9_readsMask_76 : decode cX9_readsMask 76 = .ok (.ireturn, 1) := by decide +kernel
theorem dX9_readsRaise_0 : decode cX9_readsRaise 0 = .ok (.aload_n 0, 1) := by decide +kernel
theorem dX9_readsRaise_1 : decode cX9_readsRaise 1 = .ok (.bipush 97, 2) := by decide +kernel
theorem dX9_readsRaise_3 : decode cX9_readsRaise 3 = .ok (.invokevirtual 232, 3) := by decide +kernel
theorem dX9_readsRaise_6 : decode cX9_readsRaise 6 = .ok (.ifCond .eq 56, 3) := by decide +kernel
theorem dX9_readsRaise_9 : decode cX9_readsRaise 9 = .ok (.aload_n 0, 1) := by decide +kernel
theorem dX9_readsRaise_10 : decode cX9_readsRaise 10 = .ok (.bipush 105, 2) := by decide +kernel
theorem dX9_readsRaise_12 : decode cX9_readsRaise 12 = .ok (.invokevirtual 232, 3) := by decide +kernel
theorem dX9_readsRaise_15 : decode cX9_readsRaise 15 = .ok (.ifCond .eq 47, 3) := by decide +kernel
theorem dX9_readsRaise_18 : decode cX9_readsRaise 18 = .ok (.aload_n 0, 1) := by decide +kernel
theorem dX9_readsRaise_19 : decode cX9_readsRaise 19 = .ok (.bipush 115, 2) := by decide +kernel
theorem dX9_readsRaise_21 : decode cX9_readsRaise 21 = .ok (.invokevirtual 232, 3) := by decide +kernel
theorem dX9_readsRaise_24 : decode cX9_readsRaise 24 = .ok (.ifCond .eq 38, 3) := by decide +kernel
theorem dX9_readsRaise_27 : decode cX9_readsRaise 27 = .ok (.aload_n 0, 1) := by decide +kernel
theorem dX9_readsRaise_28 : decode cX9_readsRaise 28 = .ok (.bipush 101, 2) := by decide +kernel
theorem dX9_readsRaise_30 : decode cX9_readsRaise 30 = .ok (.invokevirtual 232, 3) := by decide +kernel
theorem dX9_readsRaise_33 : decode cX9_readsRaise 33 = .ok (.ifCond .eq 29, 3) := by decide +kernel
theorem dX9_readsRaise_36 : decode cX9_readsRaise 36 = .ok (.aload_n 0, 1) := by decide +kernel
theorem dX9_readsRaise_37 : decode cX9_readsRaise 37 = .ok (.bipush 32, 2) := by decide +kernel
theorem dX9_readsRaise_39 : decode cX9_readsRaise 39 = .ok (.invokevirtual 232, 3) := by decide +kernel
theorem dX9_readsRaise_42 : decode cX9_readsRaise 42 = .ok (.ifCond .eq 20, 3) := by decide +kernel
theorem dX9_readsRaise_45 : decode cX9_readsRaise 45 = .ok (.aload_n 0, 1) := by decide +kernel
theorem dX9_readsRaise_46 : decode cX9_readsRaise 46 = .ok (.iconst 0, 1) := by decide +kernel
theorem dX9_readsRaise_47 : decode cX9_readsRaise 47 = .ok (.invokevirtual 229, 3) := by decide +kernel
theorem dX9_readsRaise_50 : decode cX9_readsRaise 50 = .ok (.ifCond .eq 12, 3) := by decide +kernel
theorem dX9_readsRaise_53 : decode cX9_readsRaise 53 = .ok (.aload_n 0, 1) := by decide +kernel
theorem dX9_readsRaise_54 : decode cX9_readsRaise 54 = .ok (.bipush 32, 2) := by decide +kernel
theorem dX9_readsRaise_56 : decode cX9_readsRaise 56 = .ok (.invokevirtual 232, 3) := by decide +kernel
theorem dX9_readsRaise_59 : decode cX9_readsRaise 59 = .ok (.ifCond .ne 5, 3) := by decide +kernel
theorem dX9_readsRaise_62 : decode cX9_readsRaise 62 = .ok (.iconst 0, 1) := by decide +kernel
theorem dX9_readsRaise_63 : decode cX9_readsRaise 63 = .ok (.ireturn, 1) := by decide +kernel
theorem dX9_readsRaise_64 : decode cX9_readsRaise 64 = .ok (.aload_n 0, 1) := by decide +kernel
theorem dX9_readsRaise_65 : decode cX9_readsRaise 65 = .ok (.iconst 2, 1) := by decide +kernel
theorem dX9_readsRaise_66 : decode cX9_readsRaise 66 = .ok (.invokevirtual 235, 3) := by decide +kernel
theorem dX9_readsRaise_69 : decode cX9_readsRaise 69 = .ok (.ifCond .eq 11, 3) := by decide +kernel
theorem dX9_readsRaise_72 : decode cX9_readsRaise 72 = .ok (.aload_n 0, 1) := by decide +kernel
theorem dX9_readsRaise_73 : decode cX9_readsRaise 73 = .ok (.iconst 1, 1) := by decide +kernel
theorem dX9_readsRaise_74 : decode cX9_readsRaise 74 = .ok (.invokevirtual 229, 3) := by decide +kernel
theorem dX9_readsRaise_77 : decode cX9_readsRaise 77 = .ok (.ifCond .ne 5, 3) := by decide +kernel
theorem dX9_readsRaise_80 : decode cX9_readsRaise 80 = .ok (.iconst 0, 1) := by decide +kernel
theorem dX9_readsRaise_81 : decode cX9_readsRaise 81 = .ok (.ireturn, 1) := by decide +kernel
theorem dX9_readsRaise_82 : decode cX9_readsRaise 82 = .ok (.aload_n 0, 1) := by decide +kernel
theorem dX9_readsRaise_83 : decode cX9_readsRaise 83 = .ok (.getfield 42, 3) := by decide +kernel
theorem dX9_readsRaise_86 : decode cX9_readsRaise 86 = .ok (.iconst 2, 1) := by decide +kernel
theorem dX9_readsRaise_87 : decode cX9_readsRaise 87 = .ok (.iaload, 1) := by decide +kernel
theorem dX9_readsRaise_88 : decode cX9_readsRaise 88 = .ok (.ifCond .ne 16, 3) := by decide +kernel
theorem dX9_readsRaise_91 : decode cX9_readsRaise 91 = .ok (.aload_n 0, 1) := by decide +kernel
theorem dX9_readsRaise_92 : decode cX9_readsRaise 92 = .ok (.getfield 42, 3) := by decide +kernel
theorem dX9_readsRaise_95 : decode cX9_readsRaise 95 = .ok (.iconst 1, 1) := by decide +kernel
theorem dX9_readsRaise_96 : decode cX9_readsRaise 96 = .ok (.aload_n 0, 1) := by decide +kernel
theorem dX9_readsRaise_97 : decode cX9_readsRaise 97 = .ok (.getfield 42, 3) := by decide +kernel
theorem dX9_readsRaise_100 : decode cX9_readsRaise 100 = .ok (.iconst 1, 1) := by decide +kernel
theorem dX9_readsRaise_101 : decode cX9_readsRaise 101 = .ok (.iaload, 1) := by decide +kernel
theorem dX9_readsRaise_102 : decode cX9_readsRaise 102 = .ok (.ineg, 1) := by decide +kernel
theorem dX9_readsRaise_103 : decode cX9_readsRaise 103 = .ok (.iastore, 1) := by decide +kernel
theorem dX9_readsRaise_104 : decode cX9_readsRaise 104 = .ok (.iconst 1, 1) := by decide +kernel
theorem dX9_readsRaise_105 : decode cX9_readsRaise 105 = .ok (.ireturn, 1) := by decide +kernel
theorem dX9_readsT_0 : decode cX9_readsT 0 = .ok (.aload_n 0, 1) := by decide +kernel
theorem dX9_readsT_1 : decode cX9_readsT 1 = .ok (.bipush 117, 2) := by decide +kernel
theorem dX9_readsT_3 : decode cX9_readsT 3 = .ok (.invokevirtual 232, 3) := by decide +kernel
theorem dX9_readsT_6 : decode cX9_readsT 6 = .ok (.ifCond .eq 44, 3) := by decide +kernel
theorem dX9_readsT_9 : decode cX9_readsT 9 = .ok (.aload_n 0, 1) := by decide +kernel
theorem dX9_readsT_10 : decode cX9_readsT 10 = .ok (.bipush 114, 2) := by decide +kernel
theorem dX9_readsT_12 : decode cX9_readsT 12 = .ok (.invokevirtual 232, 3) := by decide +kernel
theorem dX9_readsT_15 : decode cX9_readsT 15 = .ok (.ifCond .eq 33, 3) := by decide +kernel
theorem dX9_readsT_18 : decode cX9_readsT 18 = .ok (.aload_n 0, 1) := by decide +kernel
theorem dX9_readsT_19 : decode cX9_readsT 19 = .ok (.bipush 110, 2) := by decide +kernel
theorem dX9_readsT_21 : decode cX9_readsT 21 = .ok (.invokevirtual 232, 3) := by decide +kernel
theorem dX9_readsT_24 : decode cX9_readsT 24 = .ok (.ifCond .eq 24, 3) := by decide +kernel
theorem dX9_readsT_27 : decode cX9_readsT 27 = .ok (.aload_n 0, 1) := by decide +kernel
theorem dX9_readsT_28 : decode cX9_readsT 28 = .ok (.bipush 32, 2) := by decide +kernel
theorem dX9_readsT_30 : decode cX9_readsT 30 = .ok (.invokevirtual 232, 3) := by decide +kernel
theorem dX9_readsT_33 : decode cX9_readsT 33 = .ok (.ifCond .eq 15, 3) := by decide +kernel
theorem dX9_readsT_36 : decode cX9_readsT 36 = .ok (.aload_n 0, 1) := by decide +kernel
theorem dX9_readsT_37 : decode cX9_readsT 37 = .ok (.iconst 0, 1) := by decide +kernel
theorem dX9_readsT_38 : decode cX9_readsT 38 = .ok (.invokevirtual 229, 3) := by decide +kernel
theorem dX9_readsT_41 : decode cX9_readsT 41 = .ok (.ifCond .eq 7, 3) := by decide +kernel
theorem dX9_readsT_44 : decode cX9_readsT 44 = .ok (.iconst 1, 1) := by decide +kernel
theorem dX9_readsT_45 : decode cX9_readsT 45 = .ok (.goto 4, 3) := by decide +kernel
theorem dX9_readsT_48 : decode cX9_readsT 48 = .ok (.iconst 0, 1) := by decide +kernel
theorem dX9_readsT_49 : decode cX9_readsT 49 = .ok (.ireturn, 1) := by decide +kernel
theorem dX9_readsT_50 : decode cX9_readsT 50 = .ok (.aload_n 0, 1) := by decide +kernel
theorem dX9_readsT_51 : decode cX9_readsT 51 = .ok (.bipush 101, 2) := by decide +kernel
theorem dX9_readsT_53 : decode cX9_readsT 53 = .ok (.putfield 238, 3) := by decide +kernel
theorem dX9_readsT_56 : decode cX9_readsT 56 = .ok (.aload_n 0, 1) := by decide +kernel
theorem dX9_readsT_57 : decode cX9_readsT 57 = .ok (.bipush 101, 2) := by decide +kernel
theorem dX9_readsT_59 : decode cX9_readsT 59 = .ok (.invokevirtual 232, 3) := by decide +kernel
theorem dX9_readsT_62 : decode cX9_readsT 62 = .ok (.ifCond .eq 51, 3) := by decide +kernel
theorem dX9_readsT_65 : decode cX9_readsT 65 = .ok (.aload_n 0, 1) := by decide +kernel
theorem dX9_readsT_66 : decode cX9_readsT 66 = .ok (.bipush 109, 2) := by decide +kernel
theorem dX9_readsT_68 : decode cX9_readsT 68 = .ok (.invokevirtual 232, 3) := by decide +kernel
theorem dX9_readsT_71 : decode cX9_readsT 71 = .ok (.ifCond .eq 42, 3) := by decide +kernel
theorem dX9_readsT_74 : decode cX9_readsT 74 = .ok (.aload_n 0, 1) := by decide +kernel
theorem dX9_readsT_75 : decode cX9_readsT 75 = .ok (.bipush 112, 2) := by decide +kernel
theorem dX9_readsT_77 : decode cX9_readsT 77 = .ok (.invokevirtual 232, 3) := by decide +kernel
theorem dX9_readsT_80 : decode cX9_readsT 80 = .ok (.ifCond .eq 33, 3) := by decide +kernel
theorem dX9_readsT_83 : decode cX9_readsT 83 = .ok (.aload_n 0, 1) := by decide +kernel
theorem dX9_readsT_84 : decode cX9_readsT 84 = .ok (.bipush 111, 2) := by decide +kernel
theorem dX9_readsT_86 : decode cX9_readsT 86 = .ok (.invokevirtual 232, 3) := by decide +kernel
theorem dX9_readsT_89 : decode cX9_readsT 89 = .ok (.ifCond .eq 24, 3) := by decide +kernel
theorem dX9_readsT_92 : decode cX9_readsT 92 = .ok (.aload_n 0, 1) := by decide +kernel
theorem dX9_readsT_93 : decode cX9_readsT 93 = .ok (.bipush 32, 2) := by decide +kernel
theorem dX9_readsT_95 : decode cX9_readsT 95 = .ok (.invokevirtual 232, 3) := by decide +kernel
theorem dX9_readsT_98 : decode cX9_readsT 98 = .ok (.ifCond .eq 15, 3) := by decide +kernel
theorem dX9_readsT_101 : decode cX9_readsT 101 = .ok (.aload_n 0, 1) := by decide +kernel
theorem dX9_readsT_102 : decode cX9_readsT 102 = .ok (.iconst 0, 1) := by decide +kernel
theorem dX9_readsT_103 : decode cX9_readsT 103 = .ok (.invokevirtual 229, 3) := by decide +kernel
theorem dX9_readsT_106 : decode cX9_readsT 106 = .ok (.ifCond .eq 7, 3) := by decide +kernel
theorem dX9_readsT_109 : decode cX9_readsT 109 = .ok (.iconst 1, 1) := by decide +kernel
theorem dX9_readsT_110 : decode cX9_readsT 110 = .ok (.goto 4, 3) := by decide +kernel
theorem dX9_readsT_113 : decode cX9_readsT 113 = .ok (.iconst 0, 1) := by decide +kernel
theorem dX9_readsT_114 : decode cX9_readsT 114 = .ok (.ireturn, 1) := by decide +kernel
theorem dX9_readsBeat_0 : decode cX9_readsBeat 0 = .ok (.aload_n 0, 1) := by decide +kernel
theorem dX9_readsBeat_1 : decode cX9_readsBeat 1 = .ok (.bipush 101, 2) := by decide +kernel
theorem dX9_readsBeat_3 : decode cX9_readsBeat 3 = .ok (.invokevirtual 232, 3) := by decide +kernel
theorem dX9_readsBeat_6 : decode cX9_readsBeat 6 = .ok (.ifCond .eq 21, 3) := by decide +kernel
theorem dX9_readsBeat_9 : decode cX9_readsBeat 9 = .ok (.aload_n 0, 1) := by decide +kernel
theorem dX9_readsBeat_10 : decode cX9_readsBeat 10 = .ok (.bipush 97, 2) := by decide +kernel
theorem dX9_readsBeat_12 : decode cX9_readsBeat 12 = .ok (.invokevirtual 232, 3) := by decide +kernel
theorem dX9_readsBeat_15 : decode cX9_readsBeat 15 = .ok (.ifCond .eq 12, 3) := by decide +kernel
theorem dX9_readsBeat_18 : decode cX9_readsBeat 18 = .ok (.aload_n 0, 1) := by decide +kernel
theorem dX9_readsBeat_19 : decode cX9_readsBeat 19 = .ok (.bipush 116, 2) := by decide +kernel
theorem dX9_readsBeat_21 : decode cX9_readsBeat 21 = .ok (.invokevirtual 232, 3) := by decide +kernel
theorem dX9_readsBeat_24 : decode cX9_readsBeat 24 = .ok (.ifCond .ne 5, 3) := by decide +kernel
theorem dX9_readsBeat_27 : decode cX9_readsBeat 27 = .ok (.iconst 0, 1) := by decide +kernel
theorem dX9_readsBeat_28 : decode cX9_readsBeat 28 = .ok (.ireturn, 1) := by decide +kernel
theorem dX9_readsBeat_29 : decode cX9_readsBeat 29 = .ok (.aload_n 0, 1) := by decide +kernel
theorem dX9_readsBeat_30 : decode cX9_readsBeat 30 = .ok (.getfield 42, 3) := by decide +kernel
theorem dX9_readsBeat_33 : decode cX9_readsBeat 33 = .ok (.iconst 0, 1) := by decide +kernel
theorem dX9_readsBeat_34 : decode cX9_readsBeat 34 = .ok (.iconst 1, 1) := by decide +kernel
theorem dX9_readsBeat_35 : decode cX9_readsBeat 35 = .ok (.iastore, 1) := by decide +kernel
theorem dX9_readsBeat_36 : decode cX9_readsBeat 36 = .ok (.aload_n 0, 1) := by decide +kernel
theorem dX9_readsBeat_37 : decode cX9_readsBeat 37 = .ok (.bipush 32, 2) := by decide +kernel
theorem dX9_readsBeat_39 : decode cX9_readsBeat 39 = .ok (.invokevirtual 232, 3) := by decide +kernel
theorem dX9_readsBeat_42 : decode cX9_readsBeat 42 = .ok (.ifCond .eq 11, 3) := by decide +kernel
theorem dX9_readsBeat_45 : decode cX9_readsBeat 45 = .ok (.aload_n 0, 1) := by decide +kernel
theorem dX9_readsBeat_46 : decode cX9_readsBeat 46 = .ok (.iconst 0, 1) := by decide +kernel
theorem dX9_readsBeat_47 : decode cX9_readsBeat 47 = .ok (.invokevirtual 241, 3) := by decide +kernel
theorem dX9_readsBeat_50 : decode cX9_readsBeat 50 = .ok (.ifCond .eq 7, 3) := by decide +kernel
theorem dX9_readsBeat_53 : decode cX9_readsBeat 53 = .ok (.iconst 1, 1) := by decide +kernel
theorem dX9_readsBeat_54 : decode cX9_readsBeat 54 = .ok (.goto 4, 3) := by decide +kernel
theorem dX9_readsBeat_57 : decode cX9_readsBeat 57 = .ok (.iconst 0, 1) := by decide +kernel
theorem dX9_readsBeat_58 : decode cX9_readsBeat 58 = .ok (.ireturn, 1) := by decide +kernel
theorem dX9_readsCommand_0 : decode cX9_readsCommand 0 = .ok (.aload_n 0, 1) := by decide +kernel
theorem dX9_readsCommand_1 : decode cX9_readsCommand 1 = .ok (.aload_n 0, 1) := by decide +kernel
theorem dX9_readsCommand_2 : decode cX9_readsCommand 2 = .ok (.invokevirtual 226, 3) := by decide +kernel
theorem dX9_readsCommand_5 : decode cX9_readsCommand 5 = .ok (.putfield 238, 3) := by decide +kernel
theorem dX9_readsCommand_8 : decode cX9_readsCommand 8 = .ok (.aload_n 0, 1) := by decide +kernel
theorem dX9_readsCommand_9 : decode cX9_readsCommand 9 = .ok (.bipush 97, 2) := by decide +kernel
theorem dX9_readsCommand_11 : decode cX9_readsCommand 11 = .ok (.invokevirtual 232, 3) := by decide +kernel
theorem dX9_readsCommand_14 : decode cX9_readsCommand 14 = .ok (.ifCond .eq 8, 3) := by decide +kernel
theorem dX9_readsCommand_17 : decode cX9_readsCommand 17 = .ok (.aload_n 0, 1) := by decide +kernel
theorem dX9_readsCommand_18 : decode cX9_readsCommand 18 = .ok (.invokevirtual 244, 3) := by decide +kernel
theorem dX9_readsCommand_21 : decode cX9_readsCommand 21 = .ok (.ireturn, 1) := by decide +kernel
theorem dX9_readsCommand_22 : decode cX9_readsCommand 22 = .ok (.aload_n 0, 1) := by decide +kernel
theorem dX9_readsCommand_23 : decode cX9_readsCommand 23 = .ok (.bipush 100, 2) := by decide +kernel
theorem dX9_readsCommand_25 : decode cX9_readsCommand 25 = .ok (.invokevirtual 232, 3) := by decide +kernel
theorem dX9_readsCommand_28 : decode cX9_readsCommand 28 = .ok (.ifCond .eq 53, 3) := by decide +kernel
theorem dX9_readsCommand_31 : decode cX9_readsCommand 31 = .ok (.aload_n 0, 1) := by decide +kernel
theorem dX9_readsCommand_32 : decode cX9_readsCommand 32 = .ok (.bipush 114, 2) := by decide +kernel
theorem dX9_readsCommand_34 : decode cX9_readsCommand 34 = .ok (.invokevirtual 232, 3) := by decide +kernel
theorem dX9_readsCommand_37 : decode cX9_readsCommand 37 = .ok (.ifCond .eq 42, 3) := by decide +kernel
theorem dX9_readsCommand_40 : decode cX9_readsCommand 40 = .ok (.aload_n 0, 1) := by decide +kernel
theorem dX9_readsCommand_41 : decode cX9_readsCommand 41 = .ok (.bipush 111, 2) := by decide +kernel
theorem dX9_readsCommand_43 : decode cX9_readsCommand 43 = .ok (.invokevirtual 232, 3) := by decide +kernel
theorem dX9_readsCommand_46 : decode cX9_readsCommand 46 = .ok (.ifCond .eq 33, 3) := by decide +kernel
theorem dX9_readsCommand_49 : decode cX9_readsCommand 49 = .ok (.aload_n 0, 1) := by decide +kernel
theorem dX9_readsCommand_50 : decode cX9_readsCommand 50 = .ok (.bipush 112, 2) := by decide +kernel
theorem dX9_readsCommand_52 : decode cX9_readsCommand 52 = .ok (.invokevirtual 232, 3) := by decide +kernel
theorem dX9_readsCommand_55 : decode cX9_readsCommand 55 = .ok (.ifCond .eq 24, 3) := by decide +kernel
theorem dX9_readsCommand_58 : decode cX9_readsCommand 58 = .ok (.aload_n 0, 1) := by decide +kernel
theorem dX9_readsCommand_59 : decode cX9_readsCommand 59 = .ok (.bipush 32, 2) := by decide +kernel
theorem dX9_readsCommand_61 : decode cX9_readsCommand 61 = .ok (.invokevirtual 232, 3) := by decide +kernel
theorem dX9_readsCommand_64 : decode cX9_readsCommand 64 = .ok (.ifCond .eq 15, 3) := by decide +kernel
theorem dX9_readsCommand_67 : decode cX9_readsCommand 67 = .ok (.aload_n 0, 1) := by decide +kernel
theorem dX9_readsCommand_68 : decode cX9_readsCommand 68 = .ok (.iconst 0, 1) := by decide +kernel
theorem dX9_readsCommand_69 : decode cX9_readsCommand 69 = .ok (.invokevirtual 229, 3) := by decide +kernel
theorem dX9_readsCommand_72 : decode cX9_readsCommand 72 = .ok (.ifCond .eq 7, 3) := by decide +kernel
theorem dX9_readsCommand_75 : decode cX9_readsCommand 75 = .ok (.iconst 1, 1) := by decide +kernel
theorem dX9_readsCommand_76 : decode cX9_readsCommand 76 = .ok (.goto 4, 3) := by decide +kernel
theorem dX9_readsCommand_79 : decode cX9_readsCommand 79 = .ok (.iconst 0, 1) := by decide +kernel
theorem dX9_readsCommand_80 : decode cX9_readsCommand 80 = .ok (.ireturn, 1) := by decide +kernel
theorem dX9_readsCommand_81 : decode cX9_readsCommand 81 = .ok (.aload_n 0, 1) := by decide +kernel
theorem dX9_readsCommand_82 : decode cX9_readsCommand 82 = .ok (.bipush 110, 2) := by decide +kernel
theorem dX9_readsCommand_84 : decode cX9_readsCommand 84 = .ok (.invokevirtual 232, 3) := by decide +kernel
theorem dX9_readsCommand_87 : decode cX9_readsCommand 87 = .ok (.ifCond .eq 8, 3) := by decide +kernel
theorem dX9_readsCommand_90 : decode cX9_readsCommand 90 = .ok (.aload_n 0, 1) := by decide +kernel
theorem dX9_readsCommand_91 : decode cX9_readsCommand 91 = .ok (.invokevirtual 248, 3) := by decide +kernel
theorem dX9_readsCommand_94 : decode cX9_readsCommand 94 = .ok (.ireturn, 1) := by decide +kernel
theorem dX9_readsCommand_95 : decode cX9_readsCommand 95 = .ok (.aload_n 0, 1) := by decide +kernel
theorem dX9_readsCommand_96 : decode cX9_readsCommand 96 = .ok (.bipush 109, 2) := by decide +kernel
theorem dX9_readsCommand_98 : decode cX9_readsCommand 98 = .ok (.invokevirtual 232, 3) := by decide +kernel
theorem dX9_readsCommand_101 : decode cX9_readsCommand 101 = .ok (.ifCond .eq 8, 3) := by decide +kernel
theorem dX9_readsCommand_104 : decode cX9_readsCommand 104 = .ok (.aload_n 0, 1) := by decide +kernel
theorem dX9_readsCommand_105 : decode cX9_readsCommand 105 = .ok (.invokevirtual 251, 3) := by decide +kernel
theorem dX9_readsCommand_108 : decode cX9_readsCommand 108 = .ok (.ireturn, 1) := by decide +kernel
theorem dX9_readsCommand_109 : decode cX9_readsCommand 109 = .ok (.aload_n 0, 1) := by decide +kernel
theorem dX9_readsCommand_110 : decode cX9_readsCommand 110 = .ok (.bipush 102, 2) := by decide +kernel
theorem dX9_readsCommand_112 : decode cX9_readsCommand 112 = .ok (.invokevirtual 232, 3) := by decide +kernel
theorem dX9_readsCommand_115 : decode cX9_readsCommand 115 = .ok (.ifCond .eq 53, 3) := by decide +kernel
theorem dX9_readsCommand_118 : decode cX9_readsCommand 118 = .ok (.aload_n 0, 1) := by decide +kernel
theorem dX9_readsCommand_119 : decode cX9_readsCommand 119 = .ok (.bipush 108, 2) := by decide +kernel
theorem dX9_readsCommand_121 : decode cX9_readsCommand 121 = .ok (.invokevirtual 232, 3) := by decide +kernel
theorem dX9_readsCommand_124 : decode cX9_readsCommand 124 = .ok (.ifCond .eq 42, 3) := by decide +kernel
theorem dX9_readsCommand_127 : decode cX9_readsCommand 127 = .ok (.aload_n 0, 1) := by decide +kernel
theorem dX9_readsCommand_128 : decode cX9_readsCommand 128 = .ok (.bipush 105, 2) := by decide +kernel
theorem dX9_readsCommand_130 : decode cX9_readsCommand 130 = .ok (.invokevirtual 232, 3) := by decide +kernel
theorem dX9_readsCommand_133 : decode cX9_readsCommand 133 = .ok (.ifCond .eq 33, 3) := by decide +kernel
theorem dX9_readsCommand_136 : decode cX9_readsCommand 136 = .ok (.aload_n 0, 1) := by decide +kernel
theorem dX9_readsCommand_137 : decode cX9_readsCommand 137 = .ok (.bipush 112, 2) := by decide +kernel
theorem dX9_readsCommand_139 : decode cX9_readsCommand 139 = .ok (.invokevirtual 232, 3) := by decide +kernel
theorem dX9_readsCommand_142 : decode cX9_readsCommand 142 = .ok (.ifCond .eq 24, 3) := by decide +kernel
theorem dX9_readsCommand_145 : decode cX9_readsCommand 145 = .ok (.aload_n 0, 1) := by decide +kernel
theorem dX9_readsCommand_146 : decode cX9_readsCommand 146 = .ok (.bipush 32, 2) := by decide +kernel
theorem dX9_readsCommand_148 : decode cX9_readsCommand 148 = .ok (.invokevirtual 232, 3) := by decide +kernel
theorem dX9_readsCommand_151 : decode cX9_readsCommand 151 = .ok (.ifCond .eq 15, 3) := by decide +kernel
theorem dX9_readsCommand_154 : decode cX9_readsCommand 154 = .ok (.aload_n 0, 1) := by decide +kernel
theorem dX9_readsCommand_155 : decode cX9_readsCommand 155 = .ok (.iconst 0, 1) := by decide +kernel
theorem dX9_readsCommand_156 : decode cX9_readsCommand 156 = .ok (.invokevirtual 229, 3) := by decide +kernel
theorem dX9_readsCommand_159 : decode cX9_readsCommand 159 = .ok (.ifCond .eq 7, 3) := by decide +kernel
theorem dX9_readsCommand_162 : decode cX9_readsCommand 162 = .ok (.iconst 1, 1) := by decide +kernel
theorem dX9_readsCommand_163 : decode cX9_readsCommand 163 = .ok (.goto 4, 3) := by decide +kernel
theorem dX9_readsCommand_166 : decode cX9_readsCommand 166 = .ok (.iconst 0, 1) := by decide +kernel
theorem dX9_readsCommand_167 : decode cX9_readsCommand 167 = .ok (.ireturn, 1) := by decide +kernel
theorem dX9_readsCommand_168 : decode cX9_readsCommand 168 = .ok (.aload_n 0, 1) := by decide +kernel
theorem dX9_readsCommand_169 : decode cX9_readsCommand 169 = .ok (.bipush 116, 2) := by decide +kernel
theorem dX9_readsCommand_171 : decode cX9_readsCommand 171 = .ok (.invokevirtual 232, 3) := by decide +kernel
theorem dX9_readsCommand_174 : decode cX9_readsCommand 174 = .ok (.ifCond .eq 8, 3) := by decide +kernel
theorem dX9_readsCommand_177 : decode cX9_readsCommand 177 = .ok (.aload_n 0, 1) := by decide +kernel
theorem dX9_readsCommand_178 : decode cX9_readsCommand 178 = .ok (.invokevirtual 254, 3) := by decide +kernel
theorem dX9_readsCommand_181 : decode cX9_readsCommand 181 = .ok (.ireturn, 1) := by decide +kernel
theorem dX9_readsCommand_182 : decode cX9_readsCommand 182 = .ok (.aload_n 0, 1) := by decide +kernel
theorem dX9_readsCommand_183 : decode cX9_readsCommand 183 = .ok (.bipush 114, 2) := by decide +kernel
theorem dX9_readsCommand_185 : decode cX9_readsCommand 185 = .ok (.invokevirtual 232, 3) := by decide +kernel
theorem dX9_readsCommand_188 : decode cX9_readsCommand 188 = .ok (.ifCond .eq 8, 3) := by decide +kernel
theorem dX9_readsCommand_191 : decode cX9_readsCommand 191 = .ok (.aload_n 0, 1) := by decide +kernel
theorem dX9_readsCommand_192 : decode cX9_readsCommand 192 = .ok (.invokevirtual 257, 3) := by decide +kernel
theorem dX9_readsCommand_195 : decode cX9_readsCommand 195 = .ok (.ireturn, 1) := by decide +kernel
theorem dX9_readsCommand_196 : decode cX9_readsCommand 196 = .ok (.aload_n 0, 1) := by decide +kernel
theorem dX9_readsCommand_197 : decode cX9_readsCommand 197 = .ok (.bipush 108, 2) := by decide +kernel
theorem dX9_readsCommand_199 : decode cX9_readsCommand 199 = .ok (.invokevirtual 232, 3) := by decide +kernel
theorem dX9_readsCommand_202 : decode cX9_readsCommand 202 = .ok (.ifCond .eq 62, 3) := by decide +kernel
theorem dX9_readsCommand_205 : decode cX9_readsCommand 205 = .ok (.aload_n 0, 1) := by decide +kernel
theorem dX9_readsCommand_206 : decode cX9_readsCommand 206 = .ok (.bipush 105, 2) := by decide +kernel
theorem dX9_readsCommand_208 : decode cX9_readsCommand 208 = .ok (.invokevirtual 232, 3) := by decide +kernel
theorem dX9_readsCommand_211 : decode cX9_readsCommand 211 = .ok (.ifCond .eq 51, 3) := by decide +kernel
theorem dX9_readsCommand_214 : decode cX9_readsCommand 214 = .ok (.aload_n 0, 1) := by decide +kernel
theorem dX9_readsCommand_215 : decode cX9_readsCommand 215 = .ok (.bipush 109, 2) := by decide +kernel
theorem dX9_readsCommand_217 : decode cX9_readsCommand 217 = .ok (.invokevirtual 232, 3) := by decide +kernel
theorem dX9_readsCommand_220 : decode cX9_readsCommand 220 = .ok (.ifCond .eq 42, 3) := by decide +kernel
theorem dX9_readsCommand_223 : decode cX9_readsCommand 223 = .ok (.aload_n 0, 1) := by decide +kernel
theorem dX9_readsCommand_224 : decode cX9_readsCommand 224 = .ok (.bipush 105, 2) := by decide +kernel
theorem dX9_readsCommand_226 : decode cX9_readsCommand 226 = .ok (.invokevirtual 232, 3) := by decide +kernel
theorem dX9_readsCommand_229 : decode cX9_readsCommand 229 = .ok (.ifCond .eq 33, 3) := by decide +kernel
theorem dX9_readsCommand_232 : decode cX9_readsCommand 232 = .ok (.aload_n 0, 1) := by decide +kernel
theorem dX9_readsCommand_233 : decode cX9_readsCommand 233 = .ok (.bipush 116, 2) := by decide +kernel
theorem dX9_readsCommand_235 : decode cX9_readsCommand 235 = .ok (.invokevirtual 232, 3) := by decide +kernel
theorem dX9_readsCommand_238 : decode cX9_readsCommand 238 = .ok (.ifCond .eq 24, 3) := by decide +kernel
theorem dX9_readsCommand_241 : decode cX9_readsCommand 241 = .ok (.aload_n 0, 1) := by decide +kernel
theorem dX9_readsCommand_242 : decode cX9_readsCommand 242 = .ok (.bipush 32, 2) := by decide +kernel
theorem dX9_readsCommand_244 : decode cX9_readsCommand 244 = .ok (.invokevirtual 232, 3) := by decide +kernel
theorem dX9_readsCommand_247 : decode cX9_readsCommand 247 = .ok (.ifCond .eq 15, 3) := by decide +kernel
theorem dX9_readsCommand_250 : decode cX9_readsCommand 250 = .ok (.aload_n 0, 1) := by decide +kernel
theorem dX9_readsCommand_251 : decode cX9_readsCommand 251 = .ok (.iconst 0, 1) := by decide +kernel
theorem dX9_readsCommand_252 : decode cX9_readsCommand 252 = .ok (.invokevirtual 241, 3) := by decide +kernel
theorem dX9_readsCommand_255 : decode cX9_readsCommand 255 = .ok (.ifCond .eq 7, 3) := by decide +kernel
theorem dX9_readsCommand_258 : decode cX9_readsCommand 258 = .ok (.iconst 1, 1) := by decide +kernel
theorem dX9_readsCommand_259 : decode cX9_readsCommand 259 = .ok (.goto 4, 3) := by decide +kernel
theorem dX9_readsCommand_262 : decode cX9_readsCommand 262 = .ok (.iconst 0, 1) := by decide +kernel
theorem dX9_readsCommand_263 : decode cX9_readsCommand 263 = .ok (.ireturn, 1) := by decide +kernel
theorem dX9_readsCommand_264 : decode cX9_readsCommand 264 = .ok (.aload_n 0, 1) := by decide +kernel
theorem dX9_readsCommand_265 : decode cX9_readsCommand 265 = .ok (.bipush 119, 2) := by decide +kernel
theorem dX9_readsCommand_267 : decode cX9_readsCommand 267 = .ok (.invokevirtual 232, 3) := by decide +kernel
theorem dX9_readsCommand_270 : decode cX9_readsCommand 270 = .ok (.ifCond .eq 36, 3) := by decide +kernel
theorem dX9_readsCommand_273 : decode cX9_readsCommand 273 = .ok (.aload_n 0, 1) := by decide +kernel
theorem dX9_readsCommand_274 : decode cX9_readsCommand 274 = .ok (.bipush 97, 2) := by decide +kernel
theorem dX9_readsCommand_276 : decode cX9_readsCommand 276 = .ok (.invokevirtual 232, 3) := by decide +kernel
theorem dX9_readsCommand_279 : decode cX9_readsCommand 279 = .ok (.ifCond .eq 25, 3) := by decide +kernel
theorem dX9_readsCommand_282 : decode cX9_readsCommand 282 = .ok (.aload_n 0, 1) := by decide +kernel
theorem dX9_readsCommand_283 : decode cX9_readsCommand 283 = .ok (.bipush 118, 2) := by decide +kernel
theorem dX9_readsCommand_285 : decode cX9_readsCommand 285 = .ok (.invokevirtual 232, 3) := by decide +kernel
theorem dX9_readsCommand_288 : decode cX9_readsCommand 288 = .ok (.ifCond .eq 16, 3) := by decide +kernel
theorem dX9_readsCommand_291 : decode cX9_readsCommand 291 = .ok (.aload_n 0, 1) := by decide +kernel
theorem dX9_readsCommand_292 : decode cX9_readsCommand 292 = .ok (.bipush 101, 2) := by decide +kernel
theorem dX9_readsCommand_294 : decode cX9_readsCommand 294 = .ok (.invokevirtual 232, 3) := by decide +kernel
theorem dX9_readsCommand_297 : decode cX9_readsCommand 297 = .ok (.ifCond .eq 7, 3) := by decide +kernel
theorem dX9_readsCommand_300 : decode cX9_readsCommand 300 = .ok (.iconst 1, 1) := by decide +kernel
theorem dX9_readsCommand_301 : decode cX9_readsCommand 301 = .ok (.goto 4, 3) := by decide +kernel
theorem dX9_readsCommand_304 : decode cX9_readsCommand 304 = .ok (.iconst 0, 1) := by decide +kernel
theorem dX9_readsCommand_305 : decode cX9_readsCommand 305 = .ok (.ireturn, 1) := by decide +kernel
theorem dX9_readsCommand_306 : decode cX9_readsCommand 306 = .ok (.aload_n 0, 1) := by decide +kernel
theorem dX9_readsCommand_307 : decode cX9_readsCommand 307 = .ok (.bipush 98, 2) := by decide +kernel
theorem dX9_readsCommand_309 : decode cX9_readsCommand 309 = .ok (.invokevirtual 232, 3) := by decide +kernel
theorem dX9_readsCommand_312 : decode cX9_readsCommand 312 = .ok (.ifCond .eq 14, 3) := by decide +kernel
theorem dX9_readsCommand_315 : decode cX9_readsCommand 315 = .ok (.aload_n 0, 1) := by decide +kernel
theorem dX9_readsCommand_316 : decode cX9_readsCommand 316 = .ok (.invokevirtual 260, 3) := by decide +kernel
theorem dX9_readsCommand_319 : decode cX9_readsCommand 319 = .ok (.ifCond .eq 7, 3) := by decide +kernel
theorem dX9_readsCommand_322 : decode cX9_readsCommand 322 = .ok (.iconst 1, 1) := by decide +kernel
theorem dX9_readsCommand_323 : decode cX9_readsCommand 323 = .ok (.goto 4, 3) := by decide +kernel
theorem dX9_readsCommand_326 : decode cX9_readsCommand 326 = .ok (.iconst 0, 1) := by decide +kernel
theorem dX9_readsCommand_327 : decode cX9_readsCommand 327 = .ok (.ireturn, 1) := by decide +kernel
theorem dX9_readsAll_0 : decode cX9_readsAll 0 = .ok (.aload_n 0, 1) := by decide +kernel
theorem dX9_readsAll_1 : decode cX9_readsAll 1 = .ok (.iconst 0, 1) := by decide +kernel
theorem dX9_readsAll_2 : decode cX9_readsAll 2 = .ok (.putfield 223, 3) := by decide +kernel
theorem dX9_readsAll_5 : decode cX9_readsAll 5 = .ok (.iconst 1, 1) := by decide +kernel
theorem dX9_readsAll_6 : decode cX9_readsAll 6 = .ok (.istore_n 1, 1) := by decide +kernel
theorem dX9_readsAll_7 : decode cX9_readsAll 7 = .ok (.iload_n 1, 1) := by decide +kernel
theorem dX9_readsAll_8 : decode cX9_readsAll 8 = .ok (.ifCond .eq 22, 3) := by decide +kernel
theorem dX9_readsAll_11 : decode cX9_readsAll 11 = .ok (.aload_n 0, 1) := by decide +kernel
theorem dX9_readsAll_12 : decode cX9_readsAll 12 = .ok (.invokevirtual 263, 3) := by decide +kernel
theorem dX9_readsAll_15 : decode cX9_readsAll 15 = .ok (.ifCond .ne 5, 3) := by decide +kernel
theorem dX9_readsAll_18 : decode cX9_readsAll 18 = .ok (.iconst 0, 1) := by decide +kernel
theorem dX9_readsAll_19 : decode cX9_readsAll 19 = .ok (.ireturn, 1) := by decide +kernel
theorem dX9_readsAll_20 : decode cX9_readsAll 20 = .ok (.aload_n 0, 1) := by decide +kernel
theorem dX9_readsAll_21 : decode cX9_readsAll 21 = .ok (.bipush 59, 2) := by decide +kernel
theorem dX9_readsAll_23 : decode cX9_readsAll 23 = .ok (.invokevirtual 232, 3) := by decide +kernel
theorem dX9_readsAll_26 : decode cX9_readsAll 26 = .ok (.istore_n 1, 1) := by decide +kernel
theorem dX9_readsAll_27 : decode cX9_readsAll 27 = .ok (.goto (-20), 3) := by decide +kernel
theorem dX9_readsAll_30 : decode cX9_readsAll 30 = .ok (.aload_n 0, 1) := by decide +kernel
theorem dX9_readsAll_31 : decode cX9_readsAll 31 = .ok (.getfield 223, 3) := by decide +kernel
theorem dX9_readsAll_34 : decode cX9_readsAll 34 = .ok (.aload_n 0, 1) := by decide +kernel
theorem dX9_readsAll_35 : decode cX9_readsAll 35 = .ok (.getfield 220, 3) := by decide +kernel
theorem dX9_readsAll_38 : decode cX9_readsAll 38 = .ok (.if_icmp .ne 7, 3) := by decide +kernel
theorem dX9_readsAll_41 : decode cX9_readsAll 41 = .ok (.iconst 1, 1) := by decide +kernel
theorem dX9_readsAll_42 : decode cX9_readsAll 42 = .ok (.goto 4, 3) := by decide +kernel
theorem dX9_readsAll_45 : decode cX9_readsAll 45 = .ok (.iconst 0, 1) := by decide +kernel
theorem dX9_readsAll_46 : decode cX9_readsAll 46 = .ok (.ireturn, 1) := by decide +kernel
theorem dX9_notNow_0 : decode cX9_notNow 0 = .ok (.aload_n 0, 1) := by decide +kernel
theorem dX9_notNow_1 : decode cX9_notNow 1 = .ok (.getfield 42, 3) := by decide +kernel
theorem dX9_notNow_4 : decode cX9_notNow 4 = .ok (.iconst 0, 1) := by decide +kernel
theorem dX9_notNow_5 : decode cX9_notNow 5 = .ok (.iaload, 1) := by decide +kernel
theorem dX9_notNow_6 : decode cX9_notNow 6 = .ok (.istore_n 1, 1) := by decide +kernel
theorem dX9_notNow_7 : decode cX9_notNow 7 = .ok (.aload_n 0, 1) := by decide +kernel
theorem dX9_notNow_8 : decode cX9_notNow 8 = .ok (.getfield 42, 3) := by decide +kernel
theorem dX9_notNow_11 : decode cX9_notNow 11 = .ok (.iconst 1, 1) := by decide +kernel
theorem dX9_notNow_12 : decode cX9_notNow 12 = .ok (.iaload, 1) := by decide +kernel
theorem dX9_notNow_13 : decode cX9_notNow 13 = .ok (.istore_n 2, 1) := by decide +kernel
theorem dX9_notNow_14 : decode cX9_notNow 14 = .ok (.aload_n 0, 1) := by decide +kernel
theorem dX9_notNow_15 : decode cX9_notNow 15 = .ok (.getfield 238, 3) := by decide +kernel
theorem dX9_notNow_18 : decode cX9_notNow 18 = .ok (.tableswitch 161 97 116 #[94, 156, 161, 107, 146, 107, 161, 161, 161, 161, 161, 151, 132, 113, 161, 161, 161, 139, 161, 107], 94) := by decide +kernel
theorem dX9_notNow_112 : decode cX9_notNow 112 = .ok (.aload_n 0, 1) := by decide +kernel
theorem dX9_notNow_113 : decode cX9_notNow 113 = .ok (.iload_n 1, 1) := by decide +kernel
theorem dX9_notNow_114 : decode cX9_notNow 114 = .ok (.iload_n 2, 1) := by decide +kernel
theorem dX9_notNow_115 : decode cX9_notNow 115 = .ok (.aload_n 0, 1) := by decide +kernel
theorem dX9_notNow_116 : decode cX9_notNow 116 = .ok (.getfield 42, 3) := by decide +kernel
theorem dX9_notNow_119 : decode cX9_notNow 119 = .ok (.iconst 2, 1) := by decide +kernel
theorem dX9_notNow_120 : decode cX9_notNow 120 = .ok (.iaload, 1) := by decide +kernel
theorem dX9_notNow_121 : decode cX9_notNow 121 = .ok (.invokevirtual 84, 3) := by decide +kernel
theorem dX9_notNow_124 : decode cX9_notNow 124 = .ok (.ireturn, 1) := by decide +kernel
theorem dX9_notNow_125 : decode cX9_notNow 125 = .ok (.aload_n 0, 1) := by decide +kernel
theorem dX9_notNow_126 : decode cX9_notNow 126 = .ok (.iload_n 1, 1) := by decide +kernel
theorem dX9_notNow_127 : decode cX9_notNow 127 = .ok (.invokevirtual 266, 3) := by decide +kernel
theorem dX9_notNow_130 : decode cX9_notNow 130 = .ok (.ireturn, 1) := by decide +kernel
theorem dX9_notNow_131 : decode cX9_notNow 131 = .ok (.aload_n 0, 1) := by decide +kernel
theorem dX9_notNow_132 : decode cX9_notNow 132 = .ok (.iload_n 1, 1) := by decide +kernel
theorem dX9_notNow_133 : decode cX9_notNow 133 = .ok (.iload_n 2, 1) := by decide +kernel
theorem dX9_notNow_134 : decode cX9_notNow 134 = .ok (.aload_n 0, 1) := by decide +kernel
theorem dX9_notNow_135 : decode cX9_notNow 135 = .ok (.getfield 42, 3) := by decide +kernel
theorem dX9_notNow_138 : decode cX9_notNow 138 = .ok (.iconst 2, 1) := by decide +kernel
theorem dX9_notNow_139 : decode cX9_notNow 139 = .ok (.iaload, 1) := by decide +kernel
theorem dX9_notNow_140 : decode cX9_notNow 140 = .ok (.aload_n 0, 1) := by decide +kernel
theorem dX9_notNow_141 : decode cX9_notNow 141 = .ok (.getfield 42, 3) := by decide +kernel
theorem dX9_notNow_144 : decode cX9_notNow 144 = .ok (.iconst 3, 1) := by decide +kernel
theorem dX9_notNow_145 : decode cX9_notNow 145 = .ok (.iaload, 1) := by decide +kernel
theorem dX9_notNow_146 : decode cX9_notNow 146 = .ok (.invokevirtual 106, 3) := by decide +kernel
theorem dX9_notNow_149 : decode cX9_notNow 149 = .ok (.ireturn, 1) := by decide +kernel
theorem dX9_notNow_150 : decode cX9_notNow 150 = .ok (.aload_n 0, 1) := by decide +kernel
theorem dX9_notNow_151 : decode cX9_notNow 151 = .ok (.iload_n 1, 1) := by decide +kernel
theorem dX9_notNow_152 : decode cX9_notNow 152 = .ok (.iload_n 2, 1) := by decide +kernel
theorem dX9_notNow_153 : decode cX9_notNow 153 = .ok (.invokevirtual 117, 3) := by decide +kernel
theorem dX9_notNow_156 : decode cX9_notNow 156 = .ok (.ireturn, 1) := by decide +kernel
theorem dX9_notNow_157 : decode cX9_notNow 157 = .ok (.aload_n 0, 1) := by decide +kernel
theorem dX9_notNow_158 : decode cX9_notNow 158 = .ok (.iload_n 1, 1) := by decide +kernel
theorem dX9_notNow_159 : decode cX9_notNow 159 = .ok (.iload_n 2, 1) := by decide +kernel
theorem dX9_notNow_160 : decode cX9_notNow 160 = .ok (.invokevirtual 129, 3) := by decide +kernel
theorem dX9_notNow_163 : decode cX9_notNow 163 = .ok (.ireturn, 1) := by decide +kernel
theorem dX9_notNow_164 : decode cX9_notNow 164 = .ok (.iload_n 1, 1) := by decide +kernel
theorem dX9_notNow_165 : decode cX9_notNow 165 = .ok (.invokestatic 135, 3) := by decide +kernel
theorem dX9_notNow_168 : decode cX9_notNow 168 = .ok (.ireturn, 1) := by decide +kernel
theorem dX9_notNow_169 : decode cX9_notNow 169 = .ok (.iload_n 1, 1) := by decide +kernel
theorem dX9_notNow_170 : decode cX9_notNow 170 = .ok (.invokestatic 141, 3) := by decide +kernel
theorem dX9_notNow_173 : decode cX9_notNow 173 = .ok (.ireturn, 1) := by decide +kernel
theorem dX9_notNow_174 : decode cX9_notNow 174 = .ok (.iload_n 1, 1) := by decide +kernel
theorem dX9_notNow_175 : decode cX9_notNow 175 = .ok (.invokestatic 174, 3) := by decide +kernel
theorem dX9_notNow_178 : decode cX9_notNow 178 = .ok (.ireturn, 1) := by decide +kernel
theorem dX9_notNow_179 : decode cX9_notNow 179 = .ok (.iconst 0, 1) := by decide +kernel
theorem dX9_notNow_180 : decode cX9_notNow 180 = .ok (.ireturn, 1) := by decide +kernel
theorem dX9_doesNow_0 : decode cX9_doesNow 0 = .ok (.aload_n 0, 1) := by decide +kernel
theorem dX9_doesNow_1 : decode cX9_doesNow 1 = .ok (.getfield 42, 3) := by decide +kernel
theorem dX9_doesNow_4 : decode cX9_doesNow 4 = .ok (.iconst 0, 1) := by decide +kernel
theorem dX9_doesNow_5 : decode cX9_doesNow 5 = .ok (.iaload, 1) := by decide +kernel
theorem dX9_doesNow_6 : decode cX9_doesNow 6 = .ok (.istore_n 1, 1) := by decide +kernel
theorem dX9_doesNow_7 : decode cX9_doesNow 7 = .ok (.aload_n 0, 1) := by decide +kernel
theorem dX9_doesNow_8 : decode cX9_doesNow 8 = .ok (.getfield 42, 3) := by decide +kernel
theorem dX9_doesNow_11 : decode cX9_doesNow 11 = .ok (.iconst 1, 1) := by decide +kernel
theorem dX9_doesNow_12 : decode cX9_doesNow 12 = .ok (.iaload, 1) := by decide +kernel
theorem dX9_doesNow_13 : decode cX9_doesNow 13 = .ok (.istore_n 2, 1) := by decide +kernel
theorem dX9_doesNow_14 : decode cX9_doesNow 14 = .ok (.aload_n 0, 1) := by decide +kernel
theorem dX9_doesNow_15 : decode cX9_doesNow 15 = .ok (.getfield 238, 3) := by decide +kernel
theorem dX9_doesNow_18 : decode cX9_doesNow 18 = .ok (.tableswitch 201 97 119 #[106, 201, 201, 119, 176, 157, 201, 201, 201, 201, 201, 183, 144, 125, 201, 201, 201, 169, 201, 163, 201, 201, 190], 106) := by decide +kernel
theorem dX9_doesNow_124 : decode cX9_doesNow 124 = .ok (.aload_n 0, 1) := by decide +kernel
theorem dX9_doesNow_125 : decode cX9_doesNow 125 = .ok (.iload_n 1, 1) := by decide +kernel
theorem dX9_doesNow_126 : decode cX9_doesNow 126 = .ok (.iload_n 2, 1) := by decide +kernel
theorem dX9_doesNow_127 : decode cX9_doesNow 127 = .ok (.aload_n 0, 1) := by decide +kernel
theorem dX9_doesNow_128 : decode cX9_doesNow 128 = .ok (.getfield 42, 3) := by decide +kernel
theorem dX9_doesNow_131 : decode cX9_doesNow 131 = .ok (.iconst 2, 1) := by decide +kernel
theorem dX9_doesNow_132 : decode cX9_doesNow 132 = .ok (.iaload, 1) := by decide +kernel
theorem dX9_doesNow_133 : decode cX9_doesNow 133 = .ok (.invokevirtual 93, 3) := by decide +kernel
theorem dX9_doesNow_136 : decode cX9_doesNow 136 = .ok (.ireturn, 1) := by decide +kernel
theorem dX9_doesNow_137 : decode cX9_doesNow 137 = .ok (.aload_n 0, 1) := by decide +kernel
theorem dX9_doesNow_138 : decode cX9_doesNow 138 = .ok (.iload_n 1, 1) := by decide +kernel
theorem dX9_doesNow_139 : decode cX9_doesNow 139 = .ok (.invokevirtual 96, 3) := by decide +kernel
theorem dX9_doesNow_142 : decode cX9_doesNow 142 = .ok (.ireturn, 1) := by decide +kernel
theorem dX9_doesNow_143 : decode cX9_doesNow 143 = .ok (.aload_n 0, 1) := by decide +kernel
theorem dX9_doesNow_144 : decode cX9_doesNow 144 = .ok (.iload_n 1, 1) := by decide +kernel
theorem dX9_doesNow_145 : decode cX9_doesNow 145 = .ok (.iload_n 2, 1) := by decide +kernel
theorem dX9_doesNow_146 : decode cX9_doesNow 146 = .ok (.aload_n 0, 1) := by decide +kernel
theorem dX9_doesNow_147 : decode cX9_doesNow 147 = .ok (.getfield 42, 3) := by decide +kernel
theorem dX9_doesNow_150 : decode cX9_doesNow 150 = .ok (.iconst 2, 1) := by decide +kernel
theorem dX9_doesNow_151 : decode cX9_doesNow 151 = .ok (.iaload, 1) := by decide +kernel
theorem dX9_doesNow_152 : decode cX9_doesNow 152 = .ok (.aload_n 0, 1) := by decide +kernel
theorem dX9_doesNow_153 : decode cX9_doesNow 153 = .ok (.getfield 42, 3) := by decide +kernel
theorem dX9_doesNow_156 : decode cX9_doesNow 156 = .ok (.iconst 3, 1) := by decide +kernel
theorem dX9_doesNow_157 : decode cX9_doesNow 157 = .ok (.iaload, 1) := by decide +kernel
theorem dX9_doesNow_158 : decode cX9_doesNow 158 = .ok (.invokevirtual 110, 3) := by decide +kernel
theorem dX9_doesNow_161 : decode cX9_doesNow 161 = .ok (.ireturn, 1) := by decide +kernel
theorem dX9_doesNow_162 : decode cX9_doesNow 162 = .ok (.aload_n 0, 1) := by decide +kernel
theorem dX9_doesNow_163 : decode cX9_doesNow 163 = .ok (.iload_n 1, 1) := by decide +kernel
theorem dX9_doesNow_164 : decode cX9_doesNow 164 = .ok (.iload_n 2, 1) := by decide +kernel
theorem dX9_doesNow_165 : decode cX9_doesNow 165 = .ok (.aload_n 0, 1) := by decide +kernel
theorem dX9_doesNow_166 : decode cX9_doesNow 166 = .ok (.getfield 42, 3) := by decide +kernel
theorem dX9_doesNow_169 : decode cX9_doesNow 169 = .ok (.iconst 2, 1) := by decide +kernel
theorem dX9_doesNow_170 : decode cX9_doesNow 170 = .ok (.iaload, 1) := by decide +kernel
theorem dX9_doesNow_171 : decode cX9_doesNow 171 = .ok (.invokevirtual 120, 3) := by decide +kernel
theorem dX9_doesNow_174 : decode cX9_doesNow 174 = .ok (.ireturn, 1) := by decide +kernel
theorem dX9_doesNow_175 : decode cX9_doesNow 175 = .ok (.aload_n 0, 1) := by decide +kernel
theorem dX9_doesNow_176 : decode cX9_doesNow 176 = .ok (.iload_n 1, 1) := by decide +kernel
theorem dX9_doesNow_177 : decode cX9_doesNow 177 = .ok (.invokevirtual 123, 3) := by decide +kernel
theorem dX9_doesNow_180 : decode cX9_doesNow 180 = .ok (.ireturn, 1) := by decide +kernel
theorem dX9_doesNow_181 : decode cX9_doesNow 181 = .ok (.aload_n 0, 1) := by decide +kernel
theorem dX9_doesNow_182 : decode cX9_doesNow 182 = .ok (.iload_n 1, 1) := by decide +kernel
theorem dX9_doesNow_183 : decode cX9_doesNow 183 = .ok (.invokevirtual 126, 3) := by decide +kernel
theorem dX9_doesNow_186 : decode cX9_doesNow 186 = .ok (.ireturn, 1) := by decide +kernel
theorem dX9_doesNow_187 : decode cX9_doesNow 187 = .ok (.aload_n 0, 1) := by decide +kernel
theorem dX9_doesNow_188 : decode cX9_doesNow 188 = .ok (.iload_n 1, 1) := by decide +kernel
theorem dX9_doesNow_189 : decode cX9_doesNow 189 = .ok (.iload_n 2, 1) := by decide +kernel
theorem dX9_doesNow_190 : decode cX9_doesNow 190 = .ok (.invokevirtual 132, 3) := by decide +kernel
theorem dX9_doesNow_193 : decode cX9_doesNow 193 = .ok (.ireturn, 1) := by decide +kernel
theorem dX9_doesNow_194 : decode cX9_doesNow 194 = .ok (.aload_n 0, 1) := by decide +kernel
theorem dX9_doesNow_195 : decode cX9_doesNow 195 = .ok (.iconst 2, 1) := by decide +kernel
theorem dX9_doesNow_196 : decode cX9_doesNow 196 = .ok (.iload_n 1, 1) := by decide +kernel
theorem dX9_doesNow_197 : decode cX9_doesNow 197 = .ok (.invokevirtual 138, 3) := by decide +kernel
theorem dX9_doesNow_200 : decode cX9_doesNow 200 = .ok (.ireturn, 1) := by decide +kernel
theorem dX9_doesNow_201 : decode cX9_doesNow 201 = .ok (.aload_n 0, 1) := by decide +kernel
theorem dX9_doesNow_202 : decode cX9_doesNow 202 = .ok (.iconst 3, 1) := by decide +kernel
theorem dX9_doesNow_203 : decode cX9_doesNow 203 = .ok (.iload_n 1, 1) := by decide +kernel
theorem dX9_doesNow_204 : decode cX9_doesNow 204 = .ok (.invokevirtual 138, 3) := by decide +kernel
theorem dX9_doesNow_207 : decode cX9_doesNow 207 = .ok (.ireturn, 1) := by decide +kernel
theorem dX9_doesNow_208 : decode cX9_doesNow 208 = .ok (.aload_n 0, 1) := by decide +kernel
theorem dX9_doesNow_209 : decode cX9_doesNow 209 = .ok (.aload_n 0, 1) := by decide +kernel
theorem dX9_doesNow_210 : decode cX9_doesNow 210 = .ok (.getfield 13, 3) := by decide +kernel
theorem dX9_doesNow_213 : decode cX9_doesNow 213 = .ok (.iconst 2, 1) := by decide +kernel
theorem dX9_doesNow_214 : decode cX9_doesNow 214 = .ok (.iaload, 1) := by decide +kernel
theorem dX9_doesNow_215 : decode cX9_doesNow 215 = .ok (.invokevirtual 171, 3) := by decide +kernel
theorem dX9_doesNow_218 : decode cX9_doesNow 218 = .ok (.ireturn, 1) := by decide +kernel
theorem dX9_doesNow_219 : decode cX9_doesNow 219 = .ok (.aload_n 0, 1) := by decide +kernel
theorem dX9_doesNow_220 : decode cX9_doesNow 220 = .ok (.iload_n 1, 1) := by decide +kernel
theorem dX9_doesNow_221 : decode cX9_doesNow 221 = .ok (.invokevirtual 171, 3) := by decide +kernel
theorem dX9_doesNow_224 : decode cX9_doesNow 224 = .ok (.ireturn, 1) := by decide +kernel
theorem dX9_doesAll_0 : decode cX9_doesAll 0 = .ok (.aload_n 0, 1) := by decide +kernel
theorem dX9_doesAll_1 : decode cX9_doesAll 1 = .ok (.iconst 0, 1) := by decide +kernel
theorem dX9_doesAll_2 : decode cX9_doesAll 2 = .ok (.putfield 269, 3) := by decide +kernel
theorem dX9_doesAll_5 : decode cX9_doesAll 5 = .ok (.aload_n 0, 1) := by decide +kernel
theorem dX9_doesAll_6 : decode cX9_doesAll 6 = .ok (.iconst 0, 1) := by decide +kernel
theorem dX9_doesAll_7 : decode cX9_doesAll 7 = .ok (.putfield 223, 3) := by decide +kernel
theorem dX9_doesAll_10 : decode cX9_doesAll 10 = .ok (.iconst 1, 1) := by decide +kernel
theorem dX9_doesAll_11 : decode cX9_doesAll 11 = .ok (.istore_n 1, 1) := by decide +kernel
theorem dX9_doesAll_12 : decode cX9_doesAll 12 = .ok (.iload_n 1, 1) := by decide +kernel
theorem dX9_doesAll_13 : decode cX9_doesAll 13 = .ok (.ifCond .eq 42, 3) := by decide +kernel
theorem dX9_doesAll_16 : decode cX9_doesAll 16 = .ok (.aload_n 0, 1) := by decide +kernel
theorem dX9_doesAll_17 : decode cX9_doesAll 17 = .ok (.invokevirtual 263, 3) := by decide +kernel
theorem dX9_doesAll_20 : decode cX9_doesAll 20 = .ok (.pop, 1) := by decide +kernel
theorem dX9_doesAll_21 : decode cX9_doesAll 21 = .ok (.aload_n 0, 1) := by decide +kernel
theorem dX9_doesAll_22 : decode cX9_doesAll 22 = .ok (.invokevirtual 272, 3) := by decide +kernel
theorem dX9_doesAll_25 : decode cX9_doesAll 25 = .ok (.ifCond .eq 5, 3) := by decide +kernel
theorem dX9_doesAll_28 : decode cX9_doesAll 28 = .ok (.iconst 0, 1) := by decide +kernel
theorem dX9_doesAll_29 : decode cX9_doesAll 29 = .ok (.ireturn, 1) := by decide +kernel
theorem dX9_doesAll_30 : decode cX9_doesAll 30 = .ok (.aload_n 0, 1) := by decide +kernel
theorem dX9_doesAll_31 : decode cX9_doesAll 31 = .ok (.invokevirtual 275, 3) := by decide +kernel
theorem dX9_doesAll_34 : decode cX9_doesAll 34 = .ok (.pop, 1) := by decide +kernel
theorem dX9_doesAll_35 : decode cX9_doesAll 35 = .ok (.aload_n 0, 1) := by decide +kernel
theorem dX9_doesAll_36 : decode cX9_doesAll 36 = .ok (.dup, 1) := by decide +kernel
theorem dX9_doesAll_37 : decode cX9_doesAll 37 = .ok (.getfield 269, 3) := by decide +kernel
theorem dX9_doesAll_40 : decode cX9_doesAll 40 = .ok (.iconst 1, 1) := by decide +kernel
theorem dX9_doesAll_41 : decode cX9_doesAll 41 = .ok (.iadd, 1) := by decide +kernel
theorem dX9_doesAll_42 : decode cX9_doesAll 42 = .ok (.putfield 269, 3) := by decide +kernel
theorem dX9_doesAll_45 : decode cX9_doesAll 45 = .ok (.aload_n 0, 1) := by decide +kernel
theorem dX9_doesAll_46 : decode cX9_doesAll 46 = .ok (.bipush 59, 2) := by decide +kernel
theorem dX9_doesAll_48 : decode cX9_doesAll 48 = .ok (.invokevirtual 232, 3) := by decide +kernel
theorem dX9_doesAll_51 : decode cX9_doesAll 51 = .ok (.istore_n 1, 1) := by decide +kernel
theorem dX9_doesAll_52 : decode cX9_doesAll 52 = .ok (.goto (-40), 3) := by decide +kernel
theorem dX9_doesAll_55 : decode cX9_doesAll 55 = .ok (.iconst 1, 1) := by decide +kernel
theorem dX9_doesAll_56 : decode cX9_doesAll 56 = .ok (.ireturn, 1) := by decide +kernel
theorem dX9_runScript_0 : decode cX9_runScript 0 = .ok (.aload_n 0, 1) := by decide +kernel
theorem dX9_runScript_1 : decode cX9_runScript 1 = .ok (.iconst 0, 1) := by decide +kernel
theorem dX9_runScript_2 : decode cX9_runScript 2 = .ok (.putfield 1, 3) := by decide +kernel
theorem dX9_runScript_5 : decode cX9_runScript 5 = .ok (.aload_n 0, 1) := by decide +kernel
theorem dX9_runScript_6 : decode cX9_runScript 6 = .ok (.invokevirtual 278, 3) := by decide +kernel
theorem dX9_runScript_9 : decode cX9_runScript 9 = .ok (.ifCond .ne 22, 3) := by decide +kernel
theorem dX9_runScript_12 : decode cX9_runScript 12 = .ok (.aload_n 0, 1) := by decide +kernel
theorem dX9_runScript_13 : decode cX9_runScript 13 = .ok (.aload_n 0, 1) := by decide +kernel
theorem dX9_runScript_14 : decode cX9_runScript 14 = .ok (.getfield 223, 3) := by decide +kernel
theorem dX9_runScript_17 : decode cX9_runScript 17 = .ok (.putfield 36, 3) := by decide +kernel
theorem dX9_runScript_20 : decode cX9_runScript 20 = .ok (.aload_n 0, 1) := by decide +kernel
theorem dX9_runScript_21 : decode cX9_runScript 21 = .ok (.iconst 0, 1) := by decide +kernel
theorem dX9_runScript_22 : decode cX9_runScript 22 = .ok (.putfield 220, 3) := by decide +kernel
theorem dX9_runScript_25 : decode cX9_runScript 25 = .ok (.aload_n 0, 1) := by decide +kernel
theorem dX9_runScript_26 : decode cX9_runScript 26 = .ok (.iconst 1, 1) := by decide +kernel
theorem dX9_runScript_27 : decode cX9_runScript 27 = .ok (.invokevirtual 87, 3) := by decide +kernel
theorem dX9_runScript_30 : decode cX9_runScript 30 = .ok (.ireturn, 1) := by decide +kernel
theorem dX9_runScript_31 : decode cX9_runScript 31 = .ok (.aload_n 0, 1) := by decide +kernel
theorem dX9_runScript_32 : decode cX9_runScript 32 = .ok (.invokevirtual 51, 3) := by decide +kernel
theorem dX9_runScript_35 : decode cX9_runScript 35 = .ok (.aload_n 0, 1) := by decide +kernel
theorem dX9_runScript_36 : decode cX9_runScript 36 = .ok (.invokevirtual 281, 3) := by decide +kernel
theorem dX9_runScript_39 : decode cX9_runScript 39 = .ok (.istore_n 1, 1) := by decide +kernel
theorem dX9_runScript_40 : decode cX9_runScript 40 = .ok (.aload_n 0, 1) := by decide +kernel
theorem dX9_runScript_41 : decode cX9_runScript 41 = .ok (.iconst 0, 1) := by decide +kernel
theorem dX9_runScript_42 : decode cX9_runScript 42 = .ok (.putfield 220, 3) := by decide +kernel
theorem dX9_runScript_45 : decode cX9_runScript 45 = .ok (.iload_n 1, 1) := by decide +kernel
theorem dX9_runScript_46 : decode cX9_runScript 46 = .ok (.ifCond .eq 12, 3) := by decide +kernel
theorem dX9_runScript_49 : decode cX9_runScript 49 = .ok (.aload_n 0, 1) := by decide +kernel
theorem dX9_runScript_50 : decode cX9_runScript 50 = .ok (.invokevirtual 54, 3) := by decide +kernel
theorem dX9_runScript_53 : decode cX9_runScript 53 = .ok (.aload_n 0, 1) := by decide +kernel
theorem dX9_runScript_54 : decode cX9_runScript 54 = .ok (.getfield 269, 3) := by decide +kernel
theorem dX9_runScript_57 : decode cX9_runScript 57 = .ok (.ireturn, 1) := by decide +kernel
theorem dX9_runScript_58 : decode cX9_runScript 58 = .ok (.aload_n 0, 1) := by decide +kernel
theorem dX9_runScript_59 : decode cX9_runScript 59 = .ok (.invokevirtual 284, 3) := by decide +kernel
theorem dX9_runScript_62 : decode cX9_runScript 62 = .ok (.aload_n 0, 1) := by decide +kernel
theorem dX9_runScript_63 : decode cX9_runScript 63 = .ok (.aload_n 0, 1) := by decide +kernel
theorem dX9_runScript_64 : decode cX9_runScript 64 = .ok (.getfield 269, 3) := by decide +kernel
theorem dX9_runScript_67 : decode cX9_runScript 67 = .ok (.putfield 39, 3) := by decide +kernel
theorem dX9_runScript_70 : decode cX9_runScript 70 = .ok (.aload_n 0, 1) := by decide +kernel
theorem dX9_runScript_71 : decode cX9_runScript 71 = .ok (.iconst 2, 1) := by decide +kernel
theorem dX9_runScript_72 : decode cX9_runScript 72 = .ok (.invokevirtual 87, 3) := by decide +kernel
theorem dX9_runScript_75 : decode cX9_runScript 75 = .ok (.ireturn, 1) := by decide +kernel
theorem dX9_errorPosition_0 : decode cX9_errorPosition 0 = .ok (.aload_n 0, 1) := by decide +kernel
theorem dX9_errorPosition_1 : decode cX9_errorPosition 1 = .ok (.iconst 0, 1) := by decide +kernel
theorem dX9_errorPosition_2 : decode cX9_errorPosition 2 = .ok (.putfield 1, 3) := by decide +kernel
theorem dX9_errorPosition_5 : decode cX9_errorPosition 5 = .ok (.aload_n 0, 1) := by decide +kernel
theorem dX9_errorPosition_6 : decode cX9_errorPosition 6 = .ok (.getfield 36, 3) := by decide +kernel
theorem dX9_errorPosition_9 : decode cX9_errorPosition 9 = .ok (.ifCond .ge 11, 3) := by decide +kernel
theorem dX9_errorPosition_12 : decode cX9_errorPosition 12 = .ok (.aload_n 0, 1) := by decide +kernel
theorem dX9_errorPosition_13 : decode cX9_errorPosition 13 = .ok (.iconst 1, 1) := by decide +kernel
theorem dX9_errorPosition_14 : decode cX9_errorPosition 14 = .ok (.invokevirtual 87, 3) := by decide +kernel
theorem dX9_errorPosition_17 : decode cX9_errorPosition 17 = .ok (.goto 7, 3) := by decide +kernel
theorem dX9_errorPosition_20 : decode cX9_errorPosition 20 = .ok (.aload_n 0, 1) := by decide +kernel
theorem dX9_errorPosition_21 : decode cX9_errorPosition 21 = .ok (.getfield 36, 3) := by decide +kernel
theorem dX9_errorPosition_24 : decode cX9_errorPosition 24 = .ok (.ireturn, 1) := by decide +kernel
theorem dX9_failedCommand_0 : decode cX9_failedCommand 0 = .ok (.aload_n 0, 1) := by decide +kernel
theorem dX9_failedCommand_1 : decode cX9_failedCommand 1 = .ok (.iconst 0, 1) := by decide +kernel
theorem dX9_failedCommand_2 : decode cX9_failedCommand 2 = .ok (.putfield 1, 3) := by decide +kernel
theorem dX9_failedCommand_5 : decode cX9_failedCommand 5 = .ok (.aload_n 0, 1) := by decide +kernel
theorem dX9_failedCommand_6 : decode cX9_failedCommand 6 = .ok (.getfield 39, 3) := by decide +kernel
theorem dX9_failedCommand_9 : decode cX9_failedCommand 9 = .ok (.ifCond .ge 11, 3) := by decide +kernel
theorem dX9_failedCommand_12 : decode cX9_failedCommand 12 = .ok (.aload_n 0, 1) := by decide +kernel
theorem dX9_failedCommand_13 : decode cX9_failedCommand 13 = .ok (.iconst 1, 1) := by decide +kernel
theorem dX9_failedCommand_14 : decode cX9_failedCommand 14 = .ok (.invokevirtual 87, 3) := by decide +kernel
theorem dX9_failedCommand_17 : decode cX9_failedCommand 17 = .ok (.goto 7, 3) := by decide +kernel
theorem dX9_failedCommand_20 : decode cX9_failedCommand 20 = .ok (.aload_n 0, 1) := by decide +kernel
theorem dX9_failedCommand_21 : decode cX9_failedCommand 21 = .ok (.getfield 39, 3) := by decide +kernel
theorem dX9_failedCommand_24 : decode cX9_failedCommand 24 = .ok (.ireturn, 1) := by decide +kernel
theorem dX9_undo_0 : decode cX9_undo 0 = .ok (.aload_n 0, 1) := by decide +kernel
theorem dX9_undo_1 : decode cX9_undo 1 = .ok (.iconst 0, 1) := by decide +kernel
theorem dX9_undo_2 : decode cX9_undo 2 = .ok (.putfield 1, 3) := by decide +kernel
theorem dX9_undo_5 : decode cX9_undo 5 = .ok (.aload_n 0, 1) := by decide +kernel
theorem dX9_undo_6 : decode cX9_undo 6 = .ok (.getfield 45, 3) := by decide +kernel
theorem dX9_undo_9 : decode cX9_undo 9 = .ok (.ifCond .ne 9, 3) := by decide +kernel
theorem dX9_undo_12 : decode cX9_undo 12 = .ok (.aload_n 0, 1) := by decide +kernel
theorem dX9_undo_13 : decode cX9_undo 13 = .ok (.iconst 1, 1) := by decide +kernel
theorem dX9_undo_14 : decode cX9_undo 14 = .ok (.invokevirtual 87, 3) := by decide +kernel
theorem dX9_undo_17 : decode cX9_undo 17 = .ok (.ireturn, 1) := by decide +kernel
theorem dX9_undo_18 : decode cX9_undo 18 = .ok (.aload_n 0, 1) := by decide +kernel
theorem dX9_undo_19 : decode cX9_undo 19 = .ok (.dup, 1) := by decide +kernel
theorem dX9_undo_20 : decode cX9_undo 20 = .ok (.getfield 45, 3) := by decide +kernel
theorem dX9_undo_23 : decode cX9_undo 23 = .ok (.iconst 1, 1) := by decide +kernel
theorem dX9_undo_24 : decode cX9_undo 24 = .ok (.isub, 1) := by decide +kernel
theorem dX9_undo_25 : decode cX9_undo 25 = .ok (.putfield 45, 3) := by decide +kernel
theorem dX9_undo_28 : decode cX9_undo 28 = .ok (.aload_n 0, 1) := by decide +kernel
theorem dX9_undo_29 : decode cX9_undo 29 = .ok (.getfield 48, 3) := by decide +kernel
theorem dX9_undo_32 : decode cX9_undo 32 = .ok (.aload_n 0, 1) := by decide +kernel
theorem dX9_undo_33 : decode cX9_undo 33 = .ok (.getfield 45, 3) := by decide +kernel
theorem dX9_undo_36 : decode cX9_undo 36 = .ok (.iadd, 1) := by decide +kernel
theorem dX9_undo_37 : decode cX9_undo 37 = .ok (.bipush 8, 2) := by decide +kernel
theorem dX9_undo_39 : decode cX9_undo 39 = .ok (.irem, 1) := by decide +kernel
theorem dX9_undo_40 : decode cX9_undo 40 = .ok (.istore_n 1, 1) := by decide +kernel
theorem dX9_undo_41 : decode cX9_undo 41 = .ok (.iconst 0, 1) := by decide +kernel
theorem dX9_undo_42 : decode cX9_undo 42 = .ok (.istore_n 2, 1) := by decide +kernel
theorem dX9_undo_43 : decode cX9_undo 43 = .ok (.iload_n 2, 1) := by decide +kernel
theorem dX9_undo_44 : decode cX9_undo 44 = .ok (.sipush 260, 3) := by decide +kernel
theorem dX9_undo_47 : decode cX9_undo 47 = .ok (.if_icmp .ge 27, 3) := by decide +kernel
theorem dX9_undo_50 : decode cX9_undo 50 = .ok (.aload_n 0, 1) := by decide +kernel
theorem dX9_undo_51 : decode cX9_undo 51 = .ok (.getfield 13, 3) := by decide +kernel
theorem dX9_undo_54 : decode cX9_undo 54 = .ok (.iload_n 2, 1) := by decide +kernel
theorem dX9_undo_55 : decode cX9_undo 55 = .ok (.aload_n 0, 1) := by decide +kernel
theorem dX9_undo_56 : decode cX9_undo 56 = .ok (.getfield 17, 3) := by decide +kernel
theorem dX9_undo_59 : decode cX9_undo 59 = .ok (.sipush 260, 3) := by decide +kernel
theorem dX9_undo_62 : decode cX9_undo 62 = .ok (.iload_n 1, 1) := by decide +kernel
theorem dX9_undo_63 : decode cX9_undo 63 = .ok (.imul, 1) := by decide +kernel
theorem dX9_undo_64 : decode cX9_undo 64 = .ok (.iload_n 2, 1) := by decide +kernel
theorem dX9_undo_65 : decode cX9_undo 65 = .ok (.iadd, 1) := by decide +kernel
theorem dX9_undo_66 : decode cX9_undo 66 = .ok (.iaload, 1) := by decide +kernel
theorem dX9_undo_67 : decode cX9_undo 67 = .ok (.iastore, 1) := by decide +kernel
theorem dX9_undo_68 : decode cX9_undo 68 = .ok (.iinc 2 1, 3) := by decide +kernel
theorem dX9_undo_71 : decode cX9_undo 71 = .ok (.goto (-28), 3) := by decide +kernel
theorem dX9_undo_74 : decode cX9_undo 74 = .ok (.aload_n 0, 1) := by decide +kernel
theorem dX9_undo_75 : decode cX9_undo 75 = .ok (.getfield 45, 3) := by decide +kernel
theorem dX9_undo_78 : decode cX9_undo 78 = .ok (.ireturn, 1) := by decide +kernel
theorem dX9_save_0 : decode cX9_save 0 = .ok (.aload_n 0, 1) := by decide +kernel
theorem dX9_save_1 : decode cX9_save 1 = .ok (.iconst 0, 1) := by decide +kernel
theorem dX9_save_2 : decode cX9_save 2 = .ok (.putfield 1, 3) := by decide +kernel
theorem dX9_save_5 : decode cX9_save 5 = .ok (.iconst 0, 1) := by decide +kernel
theorem dX9_save_6 : decode cX9_save 6 = .ok (.istore_n 1, 1) := by decide +kernel
theorem dX9_save_7 : decode cX9_save 7 = .ok (.iload_n 1, 1) := by decide +kernel
theorem dX9_save_8 : decode cX9_save 8 = .ok (.sipush 260, 3) := by decide +kernel
theorem dX9_save_11 : decode cX9_save 11 = .ok (.if_icmp .ge 21, 3) := by decide +kernel
theorem dX9_save_14 : decode cX9_save 14 = .ok (.aload_n 0, 1) := by decide +kernel
theorem dX9_save_15 : decode cX9_save 15 = .ok (.getfield 20, 3) := by decide +kernel
theorem dX9_save_18 : decode cX9_save 18 = .ok (.iload_n 1, 1) := by decide +kernel
theorem dX9_save_19 : decode cX9_save 19 = .ok (.aload_n 0, 1) := by decide +kernel
theorem dX9_save_20 : decode cX9_save 20 = .ok (.getfield 13, 3) := by decide +kernel
theorem dX9_save_23 : decode cX9_save 23 = .ok (.iload_n 1, 1) := by decide +kernel
theorem dX9_save_24 : decode cX9_save 24 = .ok (.iaload, 1) := by decide +kernel
theorem dX9_save_25 : decode cX9_save 25 = .ok (.iastore, 1) := by decide +kernel
theorem dX9_save_26 : decode cX9_save 26 = .ok (.iinc 1 1, 3) := by decide +kernel
theorem dX9_save_29 : decode cX9_save 29 = .ok (.goto (-22), 3) := by decide +kernel
theorem dX9_save_32 : decode cX9_save 32 = .ok (.aload_n 0, 1) := by decide +kernel
theorem dX9_save_33 : decode cX9_save 33 = .ok (.iconst 1, 1) := by decide +kernel
theorem dX9_save_34 : decode cX9_save 34 = .ok (.putfield 287, 3) := by decide +kernel
theorem dX9_save_37 : decode cX9_save 37 = .ok (.aload_n 0, 1) := by decide +kernel
theorem dX9_save_38 : decode cX9_save 38 = .ok (.getfield 13, 3) := by decide +kernel
theorem dX9_save_41 : decode cX9_save 41 = .ok (.iconst 0, 1) := by decide +kernel
theorem dX9_save_42 : decode cX9_save 42 = .ok (.iaload, 1) := by decide +kernel
theorem dX9_save_43 : decode cX9_save 43 = .ok (.ireturn, 1) := by decide +kernel
theorem dX9_restore_0 : decode cX9_restore 0 = .ok (.aload_n 0, 1) := by decide +kernel
theorem dX9_restore_1 : decode cX9_restore 1 = .ok (.iconst 0, 1) := by decide +kernel
theorem dX9_restore_2 : decode cX9_restore 2 = .ok (.putfield 1, 3) := by decide +kernel
theorem dX9_restore_5 : decode cX9_restore 5 = .ok (.aload_n 0, 1) := by decide +kernel
theorem dX9_restore_6 : decode cX9_restore 6 = .ok (.getfield 287, 3) := by decide +kernel
theorem dX9_restore_9 : decode cX9_restore 9 = .ok (.ifCond .ne 9, 3) := by decide +kernel
theorem dX9_restore_12 : decode cX9_restore 12 = .ok (.aload_n 0, 1) := by decide +kernel
theorem dX9_restore_13 : decode cX9_restore 13 = .ok (.iconst 1, 1) := by decide +kernel
theorem dX9_restore_14 : decode cX9_restore 14 = .ok (.invokevirtual 87, 3) := by decide +kernel
theorem dX9_restore_17 : decode cX9_restore 17 = .ok (.ireturn, 1) := by decide +kernel
theorem dX9_restore_18 : decode cX9_restore 18 = .ok (.iconst 0, 1) := by decide +kernel
theorem dX9_restore_19 : decode cX9_restore 19 = .ok (.istore_n 1, 1) := by decide +kernel
theorem dX9_restore_20 : decode cX9_restore 20 = .ok (.iload_n 1, 1) := by decide +kernel
theorem dX9_restore_21 : decode cX9_restore 21 = .ok (.sipush 260, 3) := by decide +kernel
theorem dX9_restore_24 : decode cX9_restore 24 = .ok (.if_icmp .ge 21, 3) := by decide +kernel
theorem dX9_restore_27 : decode cX9_restore 27 = .ok (.aload_n 0, 1) := by decide +kernel
theorem dX9_restore_28 : decode cX9_restore 28 = .ok (.getfield 13, 3) := by decide +kernel
theorem dX9_restore_31 : decode cX9_restore 31 = .ok (.iload_n 1, 1) := by decide +kernel
theorem dX9_restore_32 : decode cX9_restore 32 = .ok (.aload_n 0, 1) := by decide +kernel
theorem dX9_restore_33 : decode cX9_restore 33 = .ok (.getfield 20, 3) := by decide +kernel
theorem dX9_restore_36 : decode cX9_restore 36 = .ok (.iload_n 1, 1) := by decide +kernel
theorem dX9_restore_37 : decode cX9_restore 37 = .ok (.iaload, 1) := by decide +kernel
theorem dX9_restore_38 : decode cX9_restore 38 = .ok (.iastore, 1) := by decide +kernel
theorem dX9_restore_39 : decode cX9_restore 39 = .ok (.iinc 1 1, 3) := by decide +kernel
theorem dX9_restore_42 : decode cX9_restore 42 = .ok (.goto (-22), 3) := by decide +kernel
theorem dX9_restore_45 : decode cX9_restore 45 = .ok (.aload_n 0, 1) := by decide +kernel
theorem dX9_restore_46 : decode cX9_restore 46 = .ok (.iconst 0, 1) := by decide +kernel
theorem dX9_restore_47 : decode cX9_restore 47 = .ok (.putfield 45, 3) := by decide +kernel
theorem dX9_restore_50 : decode cX9_restore 50 = .ok (.aload_n 0, 1) := by decide +kernel
theorem dX9_restore_51 : decode cX9_restore 51 = .ok (.iconst 0, 1) := by decide +kernel
theorem dX9_restore_52 : decode cX9_restore 52 = .ok (.putfield 48, 3) := by decide +kernel
theorem dX9_restore_55 : decode cX9_restore 55 = .ok (.aload_n 0, 1) := by decide +kernel
theorem dX9_restore_56 : decode cX9_restore 56 = .ok (.getfield 13, 3) := by decide +kernel
theorem dX9_restore_59 : decode cX9_restore 59 = .ok (.iconst 0, 1) := by decide +kernel
theorem dX9_restore_60 : decode cX9_restore 60 = .ok (.iaload, 1) := by decide +kernel
theorem dX9_restore_61 : decode cX9_restore 61 = .ok (.ireturn, 1) := by decide +kernel
theorem dJx00060_init_a7421_0 : decode cJx00060_init_a7421 0 = .ok (.aload_n 0, 1) := by decide +kernel
theorem dJx00060_init_a7421_1 : decode cJx00060_init_a7421 1 = .ok (.aload_n 1, 1) := by decide +kernel
theorem dJx00060_init_a7421_2 : decode cJx00060_init_a7421 2 = .ok (.invokespecial 7, 3) := by decide +kernel
theorem dJx00060_init_a7421_5 : decode cJx00060_init_a7421 5 = .ok (.return_, 1) := by decide +kernel
theorem dJx29ce0_ordinal_8abf5_0 : decode cJx29ce0_ordinal_8abf5 0 = .ok (.aload_n 0, 1) := by decide +kernel
theorem dJx29ce0_ordinal_8abf5_1 : decode cJx29ce0_ordinal_8abf5 1 = .ok (.getfield 7, 3) := by decide +kernel
theorem dJx29ce0_ordinal_8abf5_4 : decode cJx29ce0_ordinal_8abf5 4 = .ok (.ireturn, 1) := by decide +kernel
theorem dJ9_max_7cf53_0 : decode cJ9_max_7cf53 0 = .ok (.iload_n 0, 1) := by decide +kernel
theorem dJ9_max_7cf53_1 : decode cJ9_max_7cf53 1 = .ok (.iload_n 1, 1) := by decide +kernel
theorem dJ9_max_7cf53_2 : decode cJ9_max_7cf53 2 = .ok (.if_icmp .lt 7, 3) := by decide +kernel
theorem dJ9_max_7cf53_5 : decode cJ9_max_7cf53 5 = .ok (.iload_n 0, 1) := by decide +kernel
theorem dJ9_max_7cf53_6 : decode cJ9_max_7cf53 6 = .ok (.goto 4, 3) := by decide +kernel
theorem dJ9_max_7cf53_9 : decode cJ9_max_7cf53 9 = .ok (.iload_n 1, 1) := by decide +kernel
theorem dJ9_max_7cf53_10 : decode cJ9_max_7cf53 10 = .ok (.ireturn, 1) := by decide +kernel
theorem dJ9_min_7cf53_0 : decode cJ9_min_7cf53 0 = .ok (.iload_n 0, 1) := by decide +kernel
theorem dJ9_min_7cf53_1 : decode cJ9_min_7cf53 1 = .ok (.iload_n 1, 1) := by decide +kernel
theorem dJ9_min_7cf53_2 : decode cJ9_min_7cf53 2 = .ok (.if_icmp .gt 7, 3) := by decide +kernel
theorem dJ9_min_7cf53_5 : decode cJ9_min_7cf53 5 = .ok (.iload_n 0, 1) := by decide +kernel
theorem dJ9_min_7cf53_6 : decode cJ9_min_7cf53 6 = .ok (.goto 4, 3) := by decide +kernel
theorem dJ9_min_7cf53_9 : decode cJ9_min_7cf53 9 = .ok (.iload_n 1, 1) := by decide +kernel
theorem dJ9_min_7cf53_10 : decode cJ9_min_7cf53 10 = .ok (.ireturn, 1) := by decide +kernel
theorem dJ0_length_8abf5_0 : decode cJ0_length_8abf5 0 = .ok (.aload_n 0, 1) := by decide +kernel
theorem dJ0_length_8abf5_1 : decode cJ0_length_8abf5 1 = .ok (.getfield 9, 3) := by decide +kernel
theorem dJ0_length_8abf5_4 : decode cJ0_length_8abf5 4 = .ok (.arraylength, 1) := by decide +kernel
theorem dJ0_length_8abf5_5 : decode cJ0_length_8abf5 5 = .ok (.aload_n 0, 1) := by decide +kernel
theorem dJ0_length_8abf5_6 : decode cJ0_length_8abf5 6 = .ok (.invokevirtual 335, 3) := by decide +kernel
theorem dJ0_length_8abf5_9 : decode cJ0_length_8abf5 9 = .ok (.ishr, 1) := by decide +kernel
theorem dJ0_length_8abf5_10 : decode cJ0_length_8abf5 10 = .ok (.ireturn, 1) := by decide +kernel
theorem dJ0_charAt_5068e_0 : decode cJ0_charAt_5068e 0 = .ok (.aload_n 0, 1) := by decide +kernel
theorem dJ0_charAt_5068e_1 : decode cJ0_charAt_5068e 1 = .ok (.invokevirtual 492, 3) := by decide +kernel
theorem dJ0_charAt_5068e_4 : decode cJ0_charAt_5068e 4 = .ok (.ifCond .eq 12, 3) := by decide +kernel
theorem dJ0_charAt_5068e_7 : decode cJ0_charAt_5068e 7 = .ok (.aload_n 0, 1) := by decide +kernel
theorem dJ0_charAt_5068e_8 : decode cJ0_charAt_5068e 8 = .ok (.getfield 9, 3) := by decide +kernel
theorem dJ0_charAt_5068e_11 : decode cJ0_charAt_5068e 11 = .ok (.iload_n 1, 1) := by decide +kernel
theorem dJ0_charAt_5068e_12 : decode cJ0_charAt_5068e 12 = .ok (.invokestatic 495, 3) := by decide +kernel
theorem dJ0_charAt_5068e_15 : decode cJ0_charAt_5068e 15 = .ok (.ireturn, 1) := by decide +kernel
theorem dJ0_charAt_5068e_16 : decode cJ0_charAt_5068e 16 = .ok (.aload_n 0, 1) := by decide +kernel
theorem dJ0_charAt_5068e_17 : decode cJ0_charAt_5068e 17 = .ok (.getfield 9, 3) := by decide +kernel
theorem dJ0_charAt_5068e_20 : decode cJ0_charAt_5068e 20 = .ok (.iload_n 1, 1) := by decide +kernel
theorem dJ0_charAt_5068e_21 : decode cJ0_charAt_5068e 21 = .ok (.invokestatic 498, 3) := by decide +kernel
theorem dJ0_charAt_5068e_24 : decode cJ0_charAt_5068e 24 = .ok (.ireturn, 1) := by decide +kernel
theorem dJ0_coder_7d493_0 : decode cJ0_coder_7d493 0 = .ok (.getstatic 38, 3) := by decide +kernel
theorem dJ0_coder_7d493_3 : decode cJ0_coder_7d493 3 = .ok (.ifCond .eq 10, 3) := by decide +kernel
theorem dJ0_coder_7d493_6 : decode cJ0_coder_7d493 6 = .ok (.aload_n 0, 1) := by decide +kernel
theorem dJ0_coder_7d493_7 : decode cJ0_coder_7d493 7 = .ok (.getfield 15, 3) := by decide +kernel
theorem dJ0_coder_7d493_10 : decode cJ0_coder_7d493 10 = .ok (.goto 4, 3) := by decide +kernel
theorem dJ0_coder_7d493_13 : decode cJ0_coder_7d493 13 = .ok (.iconst 1, 1) := by decide +kernel
theorem dJ0_coder_7d493_14 : decode cJ0_coder_7d493 14 = .ok (.ireturn, 1) := by decide +kernel
theorem dJ0_isLatin1_aae02_0 : decode cJ0_isLatin1_aae02 0 = .ok (.getstatic 38, 3) := by decide +kernel
theorem dJ0_isLatin1_aae02_3 : decode cJ0_isLatin1_aae02 3 = .ok (.ifCond .eq 14, 3) := by decide +kernel
theorem dJ0_isLatin1_aae02_6 : decode cJ0_isLatin1_aae02 6 = .ok (.aload_n 0, 1) := by decide +kernel
theorem dJ0_isLatin1_aae02_7 : decode cJ0_isLatin1_aae02 7 = .ok (.getfield 15, 3) := by decide +kernel
theorem dJ0_isLatin1_aae02_10 : decode cJ0_isLatin1_aae02 10 = .ok (.ifCond .ne 7, 3) := by decide +kernel
theorem dJ0_isLatin1_aae02_13 : decode cJ0_isLatin1_aae02 13 = .ok (.iconst 1, 1) := by decide +kernel
theorem dJ0_isLatin1_aae02_14 : decode cJ0_isLatin1_aae02 14 = .ok (.goto 4, 3) := by decide +kernel
theorem dJ0_isLatin1_aae02_17 : decode cJ0_isLatin1_aae02 17 = .ok (.iconst 0, 1) := by decide +kernel
theorem dJ0_isLatin1_aae02_18 : decode cJ0_isLatin1_aae02 18 = .ok (.ireturn, 1) := by decide +kernel
theorem dJ0_checkIndex_df160_0 : decode cJ0_checkIndex_df160 0 = .ok (.iload_n 0, 1) := by decide +kernel
theorem dJ0_checkIndex_df160_1 : decode cJ0_checkIndex_df160 1 = .ok (.iload_n 1, 1) := by decide +kernel
theorem dJ0_checkIndex_df160_2 : decode cJ0_checkIndex_df160 2 = .ok (.getstatic 1053, 3) := by decide +kernel
theorem dJ0_checkIndex_df160_5 : decode cJ0_checkIndex_df160 5 = .ok (.invokestatic 1059, 3) := by decide +kernel
theorem dJ0_checkIndex_df160_8 : decode cJ0_checkIndex_df160 8 = .ok (.pop, 1) := by decide +kernel
theorem dJ0_checkIndex_df160_9 : decode cJ0_checkIndex_df160 9 = .ok (.return_, 1) := by decide +kernel
theorem dJ1_charAt_3b067_0 : decode cJ1_charAt_3b067 0 = .ok (.iload_n 1, 1) := by decide +kernel
theorem dJ1_charAt_3b067_1 : decode cJ1_charAt_3b067 1 = .ok (.aload_n 0, 1) := by decide +kernel
theorem dJ1_charAt_3b067_2 : decode cJ1_charAt_3b067 2 = .ok (.arraylength, 1) := by decide +kernel
theorem dJ1_charAt_3b067_3 : decode cJ1_charAt_3b067 3 = .ok (.invokestatic 9, 3) := by decide +kernel
theorem dJ1_charAt_3b067_6 : decode cJ1_charAt_3b067 6 = .ok (.aload_n 0, 1) := by decide +kernel
theorem dJ1_charAt_3b067_7 : decode cJ1_charAt_3b067 7 = .ok (.iload_n 1, 1) := by decide +kernel
theorem dJ1_charAt_3b067_8 : decode cJ1_charAt_3b067 8 = .ok (.baload, 1) := by decide +kernel
theorem dJ1_charAt_3b067_9 : decode cJ1_charAt_3b067 9 = .ok (.sipush 255, 3) := by decide +kernel
theorem dJ1_charAt_3b067_12 : decode cJ1_charAt_3b067 12 = .ok (.iand, 1) := by decide +kernel
theorem dJ1_charAt_3b067_13 : decode cJ1_charAt_3b067 13 = .ok (.i2c, 1) := by decide +kernel
theorem dJ1_charAt_3b067_14 : decode cJ1_charAt_3b067 14 = .ok (.ireturn, 1) := by decide +kernel
theorem dJ2_getChar_3b067_0 : decode cJ2_getChar_3b067 0 = .ok (.getstatic 44, 3) := by decide +kernel
theorem dJ2_getChar_3b067_3 : decode cJ2_getChar_3b067 3 = .ok (.ifCond .ne 25, 3) := by decide +kernel
theorem dJ2_getChar_3b067_6 : decode cJ2_getChar_3b067 6 = .ok (.iload_n 1, 1) := by decide +kernel
theorem dJ2_getChar_3b067_7 : decode cJ2_getChar_3b067 7 = .ok (.ifCond .lt 11, 3) := by decide +kernel
theorem dJ2_getChar_3b067_10 : decode cJ2_getChar_3b067 10 = .ok (.iload_n 1, 1) := by decide +kernel
theorem dJ2_getChar_3b067_11 : decode cJ2_getChar_3b067 11 = .ok (.aload_n 0, 1) := by decide +kernel
theorem dJ2_getChar_3b067_12 : decode cJ2_getChar_3b067 12 = .ok (.invokestatic 48, 3) := by decide +kernel
theorem dJ2_getChar_3b067_15 : decode cJ2_getChar_3b067 15 = .ok (.if_icmp .lt 13, 3) := by decide +kernel
theorem dJ2_getChar_3b067_18 : decode cJ2_getChar_3b067 18 = .ok (.new 52, 3) := by decide +kernel
theorem dJ2_getChar_3b067_21 : decode cJ2_getChar_3b067 21 = .ok (.dup, 1) := by decide +kernel
theorem dJ2_getChar_3b067_22 : decode cJ2_getChar_3b067 22 = .ok (.ldc 54, 2) := by decide +kernel
theorem dJ2_getChar_3b067_24 : decode cJ2_getChar_3b067 24 = .ok (.invokespecial 56, 3) := by decide +kernel
theorem dJ2_getChar_3b067_27 : decode cJ2_getChar_3b067 27 = .ok (.athrow, 1) := by decide +kernel
theorem dJ2_getChar_3b067_28 : decode cJ2_getChar_3b067 28 = .ok (.iload_n 1, 1) := by decide +kernel
theorem dJ2_getChar_3b067_29 : decode cJ2_getChar_3b067 29 = .ok (.iconst 1, 1) := by decide +kernel
theorem dJ2_getChar_3b067_30 : decode cJ2_getChar_3b067 30 = .ok (.ishl, 1) := by decide +kernel
theorem dJ2_getChar_3b067_31 : decode cJ2_getChar_3b067 31 = .ok (.istore_n 1, 1) := by decide +kernel
theorem dJ2_getChar_3b067_32 : decode cJ2_getChar_3b067 32 = .ok (.aload_n 0, 1) := by decide +kernel
theorem dJ2_getChar_3b067_33 : decode cJ2_getChar_3b067 33 = .ok (.iload_n 1, 1) := by decide +kernel
theorem dJ2_getChar_3b067_34 : decode cJ2_getChar_3b067 34 = .ok (.iinc 1 1, 3) := by decide +kernel
theorem dJ2_getChar_3b067_37 : decode cJ2_getChar_3b067 37 = .ok (.baload, 1) := by decide +kernel
theorem dJ2_getChar_3b067_38 : decode cJ2_getChar_3b067 38 = .ok (.sipush 255, 3) := by decide +kernel
theorem dJ2_getChar_3b067_41 : decode cJ2_getChar_3b067 41 = .ok (.iand, 1) := by decide +kernel
theorem dJ2_getChar_3b067_42 : decode cJ2_getChar_3b067 42 = .ok (.getstatic 59, 3) := by decide +kernel
theorem dJ2_getChar_3b067_45 : decode cJ2_getChar_3b067 45 = .ok (.ishl, 1) := by decide +kernel
theorem dJ2_getChar_3b067_46 : decode cJ2_getChar_3b067 46 = .ok (.aload_n 0, 1) := by decide +kernel
theorem dJ2_getChar_3b067_47 : decode cJ2_getChar_3b067 47 = .ok (.iload_n 1, 1) := by decide +kernel
theorem dJ2_getChar_3b067_48 : decode cJ2_getChar_3b067 48 = .ok (.baload, 1) := by decide +kernel
theorem dJ2_getChar_3b067_49 : decode cJ2_getChar_3b067 49 = .ok (.sipush 255, 3) := by decide +kernel
theorem dJ2_getChar_3b067_52 : decode cJ2_getChar_3b067 52 = .ok (.iand, 1) := by decide +kernel
theorem dJ2_getChar_3b067_53 : decode cJ2_getChar_3b067 53 = .ok (.getstatic 63, 3) := by decide +kernel
theorem dJ2_getChar_3b067_56 : decode cJ2_getChar_3b067 56 = .ok (.ishl, 1) := by decide +kernel
theorem dJ2_getChar_3b067_57 : decode cJ2_getChar_3b067 57 = .ok (.ior, 1) := by decide +kernel
theorem dJ2_getChar_3b067_58 : decode cJ2_getChar_3b067 58 = .ok (.i2c, 1) := by decide +kernel
theorem dJ2_getChar_3b067_59 : decode cJ2_getChar_3b067 59 = .ok (.ireturn, 1) := by decide +kernel
theorem dJ2_length_9d52b_0 : decode cJ2_length_9d52b 0 = .ok (.aload_n 0, 1) := by decide +kernel
theorem dJ2_length_9d52b_1 : decode cJ2_length_9d52b 1 = .ok (.arraylength, 1) := by decide +kernel
theorem dJ2_length_9d52b_2 : decode cJ2_length_9d52b 2 = .ok (.iconst 1, 1) := by decide +kernel
theorem dJ2_length_9d52b_3 : decode cJ2_length_9d52b 3 = .ok (.ishr, 1) := by decide +kernel
theorem dJ2_length_9d52b_4 : decode cJ2_length_9d52b 4 = .ok (.ireturn, 1) := by decide +kernel
theorem dJ2_charAt_3b067_0 : decode cJ2_charAt_3b067 0 = .ok (.iload_n 1, 1) := by decide +kernel
theorem dJ2_charAt_3b067_1 : decode cJ2_charAt_3b067 1 = .ok (.aload_n 0, 1) := by decide +kernel
theorem dJ2_charAt_3b067_2 : decode cJ2_charAt_3b067 2 = .ok (.invokestatic 67, 3) := by decide +kernel
theorem dJ2_charAt_3b067_5 : decode cJ2_charAt_3b067 5 = .ok (.aload_n 0, 1) := by decide +kernel
theorem dJ2_charAt_3b067_6 : decode cJ2_charAt_3b067 6 = .ok (.iload_n 1, 1) := by decide +kernel
theorem dJ2_charAt_3b067_7 : decode cJ2_charAt_3b067 7 = .ok (.invokestatic 71, 3) := by decide +kernel
theorem dJ2_charAt_3b067_10 : decode cJ2_charAt_3b067 10 = .ok (.ireturn, 1) := by decide +kernel
theorem dJ2_checkIndex_2214a_0 : decode cJ2_checkIndex_2214a 0 = .ok (.iload_n 0, 1) := by decide +kernel
theorem dJ2_checkIndex_2214a_1 : decode cJ2_checkIndex_2214a 1 = .ok (.aload_n 1, 1) := by decide +kernel
theorem dJ2_checkIndex_2214a_2 : decode cJ2_checkIndex_2214a 2 = .ok (.invokestatic 48, 3) := by decide +kernel
theorem dJ2_checkIndex_2214a_5 : decode cJ2_checkIndex_2214a 5 = .ok (.invokestatic 414, 3) := by decide +kernel
theorem dJ2_checkIndex_2214a_8 : decode cJ2_checkIndex_2214a 8 = .ok (.return_, 1) := by decide +kernel
theorem dJ3_checkIndex_8e157_0 : decode cJ3_checkIndex_8e157 0 = .ok (.iload_n 0, 1) := by decide +kernel
theorem dJ3_checkIndex_8e157_1 : decode cJ3_checkIndex_8e157 1 = .ok (.ifCond .lt 8, 3) := by decide +kernel
theorem dJ3_checkIndex_8e157_4 : decode cJ3_checkIndex_8e157 4 = .ok (.iload_n 0, 1) := by decide +kernel
theorem dJ3_checkIndex_8e157_5 : decode cJ3_checkIndex_8e157 5 = .ok (.iload_n 1, 1) := by decide +kernel
theorem dJ3_checkIndex_8e157_6 : decode cJ3_checkIndex_8e157 6 = .ok (.if_icmp .lt 10, 3) := by decide +kernel
theorem dJ3_checkIndex_8e157_9 : decode cJ3_checkIndex_8e157 9 = .ok (.aload_n 2, 1) := by decide +kernel
theorem dJ3_checkIndex_8e157_10 : decode cJ3_checkIndex_8e157 10 = .ok (.iload_n 0, 1) := by decide +kernel
theorem dJ3_checkIndex_8e157_11 : decode cJ3_checkIndex_8e157 11 = .ok (.iload_n 1, 1) := by decide +kernel
theorem dJ3_checkIndex_8e157_12 : decode cJ3_checkIndex_8e157 12 = .ok (.invokestatic 95, 3) := by decide +kernel
theorem dJ3_checkIndex_8e157_15 : decode cJ3_checkIndex_8e157 15 = .ok (.athrow, 1) := by decide +kernel
theorem dJ3_checkIndex_8e157_16 : decode cJ3_checkIndex_8e157 16 = .ok (.iload_n 0, 1) := by decide +kernel
theorem dJ3_checkIndex_8e157_17 : decode cJ3_checkIndex_8e157 17 = .ok (.ireturn, 1) := by decide +kernel
theorem dL_addSection_0 : decode cL_addSection 0 = .ok (.aload 4, 2) := by decide +kernel
theorem dL_addSection_2 : decode cL_addSection 2 = .ok (.iconst 0, 1) := by decide +kernel
theorem dL_addSection_3 : decode cL_addSection 3 = .ok (.aload_n 0, 1) := by decide +kernel
theorem dL_addSection_4 : decode cL_addSection 4 = .ok (.iload_n 1, 1) := by decide +kernel
theorem dL_addSection_5 : decode cL_addSection 5 = .ok (.iload_n 2, 1) := by decide +kernel
theorem dL_addSection_6 : decode cL_addSection 6 = .ok (.iload_n 3, 1) := by decide +kernel
theorem dL_addSection_7 : decode cL_addSection 7 = .ok (.invokevirtual 7, 3) := by decide +kernel
theorem dL_addSection_10 : decode cL_addSection 10 = .ok (.i2l, 1) := by decide +kernel
theorem dL_addSection_11 : decode cL_addSection 11 = .ok (.lastore, 1) := by decide +kernel
theorem dL_addSection_12 : decode cL_addSection 12 = .ok (.goto 11, 3) := by decide +kernel
theorem dL_addSection_15 : decode cL_addSection 15 = .ok (.astore 5, 2) := by decide +kernel
theorem dL_addSection_17 : decode cL_addSection 17 = .ok (.iconst 1, 1) := by decide +kernel
theorem dL_addSection_18 : decode cL_addSection 18 = .ok (.ireturn, 1) := by decide +kernel
theorem dL_addSection_19 : decode cL_addSection 19 = .ok (.astore 5, 2) := by decide +kernel
theorem dL_addSection_21 : decode cL_addSection 21 = .ok (.iconst 2, 1) := by decide +kernel
theorem dL_addSection_22 : decode cL_addSection 22 = .ok (.ireturn, 1) := by decide +kernel
theorem dL_addSection_23 : decode cL_addSection 23 = .ok (.iconst 0, 1) := by decide +kernel
theorem dL_addSection_24 : decode cL_addSection 24 = .ok (.ireturn, 1) := by decide +kernel
theorem dL_removeSection_0 : decode cL_removeSection 0 = .ok (.aload_n 2, 1) := by decide +kernel
theorem dL_removeSection_1 : decode cL_removeSection 1 = .ok (.iconst 0, 1) := by decide +kernel
theorem dL_removeSection_2 : decode cL_removeSection 2 = .ok (.aload_n 0, 1) := by decide +kernel
theorem dL_removeSection_3 : decode cL_removeSection 3 = .ok (.iload_n 1, 1) := by decide +kernel
theorem dL_removeSection_4 : decode cL_removeSection 4 = .ok (.invokevirtual 17, 3) := by decide +kernel
theorem dL_removeSection_7 : decode cL_removeSection 7 = .ok (.i2l, 1) := by decide +kernel
theorem dL_removeSection_8 : decode cL_removeSection 8 = .ok (.lastore, 1) := by decide +kernel
theorem dL_removeSection_9 : decode cL_removeSection 9 = .ok (.goto 6, 3) := by decide +kernel
theorem dL_removeSection_12 : decode cL_removeSection 12 = .ok (.astore_n 3, 1) := by decide +kernel
theorem dL_removeSection_13 : decode cL_removeSection 13 = .ok (.iconst 1, 1) := by decide +kernel
theorem dL_removeSection_14 : decode cL_removeSection 14 = .ok (.ireturn, 1) := by decide +kernel
theorem dL_removeSection_15 : decode cL_removeSection 15 = .ok (.iconst 0, 1) := by decide +kernel
theorem dL_removeSection_16 : decode cL_removeSection 16 = .ok (.ireturn, 1) := by decide +kernel
theorem dL_setNote_0 : decode cL_setNote 0 = .ok (.aload 5, 2) := by decide +kernel
theorem dL_setNote_2 : decode cL_setNote 2 = .ok (.iconst 0, 1) := by decide +kernel
theorem dL_setNote_3 : decode cL_setNote 3 = .ok (.aload_n 0, 1) := by decide +kernel
theorem dL_setNote_4 : decode cL_setNote 4 = .ok (.iload_n 1, 1) := by decide +kernel
theorem dL_setNote_5 : decode cL_setNote 5 = .ok (.iload_n 2, 1) := by decide +kernel
theorem dL_setNote_6 : decode cL_setNote 6 = .ok (.iload_n 3, 1) := by decide +kernel
theorem dL_setNote_7 : decode cL_setNote 7 = .ok (.iload 4, 2) := by decide +kernel
theorem dL_setNote_9 : decode cL_setNote 9 = .ok (.invokevirtual 23, 3) := by decide +kernel
theorem dL_setNote_12 : decode cL_setNote 12 = .ok (.i2l, 1) := by decide +kernel
theorem dL_setNote_13 : decode cL_setNote 13 = .ok (.lastore, 1) := by decide +kernel
theorem dL_setNote_14 : decode cL_setNote 14 = .ok (.goto 11, 3) := by decide +kernel
theorem dL_setNote_17 : decode cL_setNote 17 = .ok (.astore 6, 2) := by decide +kernel
theorem dL_setNote_19 : decode cL_setNote 19 = .ok (.iconst 1, 1) := by decide +kernel
theorem dL_setNote_20 : decode cL_setNote 20 = .ok (.ireturn, 1) := by decide +kernel
theorem dL_setNote_21 : decode cL_setNote 21 = .ok (.astore 6, 2) := by decide +kernel
theorem dL_setNote_23 : decode cL_setNote 23 = .ok (.iconst 2, 1) := by decide +kernel
theorem dL_setNote_24 : decode cL_setNote 24 = .ok (.ireturn, 1) := by decide +kernel
theorem dL_setNote_25 : decode cL_setNote 25 = .ok (.iconst 0, 1) := by decide +kernel
theorem dL_setNote_26 : decode cL_setNote 26 = .ok (.ireturn, 1) := by decide +kernel
theorem dL_setMasked_0 : decode cL_setMasked 0 = .ok (.aload 4, 2) := by decide +kernel
theorem dL_setMasked_2 : decode cL_setMasked 2 = .ok (.iconst 0, 1) := by decide +kernel
theorem dL_setMasked_3 : decode cL_setMasked 3 = .ok (.aload_n 0, 1) := by decide +kernel
theorem dL_setMasked_4 : decode cL_setMasked 4 = .ok (.iload_n 1, 1) := by decide +kernel
theorem dL_setMasked_5 : decode cL_setMasked 5 = .ok (.iload_n 2, 1) := by decide +kernel
theorem dL_setMasked_6 : decode cL_setMasked 6 = .ok (.iload_n 3, 1) := by decide +kernel
theorem dL_setMasked_7 : decode cL_setMasked 7 = .ok (.invokevirtual 27, 3) := by decide +kernel
theorem dL_setMasked_10 : decode cL_setMasked 10 = .ok (.ifCond .eq 7, 3) := by decide +kernel
theorem dL_setMasked_13 : decode cL_setMasked 13 = .ok (.lconst 1, 1) := by decide +kernel
theorem dL_setMasked_14 : decode cL_setMasked 14 = .ok (.goto 4, 3) := by decide +kernel
theorem dL_setMasked_17 : decode cL_setMasked 17 = .ok (.lconst 0, 1) := by decide +kernel
theorem dL_setMasked_18 : decode cL_setMasked 18 = .ok (.lastore, 1) := by decide +kernel
theorem dL_setMasked_19 : decode cL_setMasked 19 = .ok (.goto 11, 3) := by decide +kernel
theorem dL_setMasked_22 : decode cL_setMasked 22 = .ok (.astore 5, 2) := by decide +kernel
theorem dL_setMasked_24 : decode cL_setMasked 24 = .ok (.iconst 1, 1) := by decide +kernel
theorem dL_setMasked_25 : decode cL_setMasked 25 = .ok (.ireturn, 1) := by decide +kernel
theorem dL_setMasked_26 : decode cL_setMasked 26 = .ok (.astore 5, 2) := by decide +kernel
theorem dL_setMasked_28 : decode cL_setMasked 28 = .ok (.iconst 2, 1) := by decide +kernel
theorem dL_setMasked_29 : decode cL_setMasked 29 = .ok (.ireturn, 1) := by decide +kernel
theorem dL_setMasked_30 : decode cL_setMasked 30 = .ok (.iconst 0, 1) := by decide +kernel
theorem dL_setMasked_31 : decode cL_setMasked 31 = .ok (.ireturn, 1) := by decide +kernel
theorem dL_transpose_0 : decode cL_transpose 0 = .ok (.aload_n 2, 1) := by decide +kernel
theorem dL_transpose_1 : decode cL_transpose 1 = .ok (.iconst 0, 1) := by decide +kernel
theorem dL_transpose_2 : decode cL_transpose 2 = .ok (.aload_n 0, 1) := by decide +kernel
theorem dL_transpose_3 : decode cL_transpose 3 = .ok (.iload_n 1, 1) := by decide +kernel
theorem dL_transpose_4 : decode cL_transpose 4 = .ok (.invokevirtual 31, 3) := by decide +kernel
theorem dL_transpose_7 : decode cL_transpose 7 = .ok (.i2l, 1) := by decide +kernel
theorem dL_transpose_8 : decode cL_transpose 8 = .ok (.lastore, 1) := by decide +kernel
theorem dL_transpose_9 : decode cL_transpose 9 = .ok (.goto 6, 3) := by decide +kernel
theorem dL_transpose_12 : decode cL_transpose 12 = .ok (.astore_n 3, 1) := by decide +kernel
theorem dL_transpose_13 : decode cL_transpose 13 = .ok (.iconst 1, 1) := by decide +kernel
theorem dL_transpose_14 : decode cL_transpose 14 = .ok (.ireturn, 1) := by decide +kernel
theorem dL_transpose_15 : decode cL_transpose 15 = .ok (.iconst 0, 1) := by decide +kernel
theorem dL_transpose_16 : decode cL_transpose 16 = .ok (.ireturn, 1) := by decide +kernel
theorem dL_reverse_0 : decode cL_reverse 0 = .ok (.aload_n 2, 1) := by decide +kernel
theorem dL_reverse_1 : decode cL_reverse 1 = .ok (.iconst 0, 1) := by decide +kernel
theorem dL_reverse_2 : decode cL_reverse 2 = .ok (.aload_n 0, 1) := by decide +kernel
theorem dL_reverse_3 : decode cL_reverse 3 = .ok (.iload_n 1, 1) := by decide +kernel
theorem dL_reverse_4 : decode cL_reverse 4 = .ok (.invokevirtual 34, 3) := by decide +kernel
theorem dL_reverse_7 : decode cL_reverse 7 = .ok (.i2l, 1) := by decide +kernel
theorem dL_reverse_8 : decode cL_reverse 8 = .ok (.lastore, 1) := by decide +kernel
theorem dL_reverse_9 : decode cL_reverse 9 = .ok (.goto 6, 3) := by decide +kernel
theorem dL_reverse_12 : decode cL_reverse 12 = .ok (.astore_n 3, 1) := by decide +kernel
theorem dL_reverse_13 : decode cL_reverse 13 = .ok (.iconst 1, 1) := by decide +kernel
theorem dL_reverse_14 : decode cL_reverse 14 = .ok (.ireturn, 1) := by decide +kernel
theorem dL_reverse_15 : decode cL_reverse 15 = .ok (.iconst 0, 1) := by decide +kernel
theorem dL_reverse_16 : decode cL_reverse 16 = .ok (.ireturn, 1) := by decide +kernel
theorem dL_raise_0 : decode cL_raise 0 = .ok (.aload_n 3, 1) := by decide +kernel
theorem dL_raise_1 : decode cL_raise 1 = .ok (.iconst 0, 1) := by decide +kernel
theorem dL_raise_2 : decode cL_raise 2 = .ok (.aload_n 0, 1) := by decide +kernel
theorem dL_raise_3 : decode cL_raise 3 = .ok (.iload_n 1, 1) := by decide +kernel
theorem dL_raise_4 : decode cL_raise 4 = .ok (.iload_n 2, 1) := by decide +kernel
theorem dL_raise_5 : decode cL_raise 5 = .ok (.invokevirtual 37, 3) := by decide +kernel
theorem dL_raise_8 : decode cL_raise 8 = .ok (.i2l, 1) := by decide +kernel
theorem dL_raise_9 : decode cL_raise 9 = .ok (.lastore, 1) := by decide +kernel
theorem dL_raise_10 : decode cL_raise 10 = .ok (.goto 15, 3) := by decide +kernel
theorem dL_raise_13 : decode cL_raise 13 = .ok (.astore 4, 2) := by decide +kernel
theorem dL_raise_15 : decode cL_raise 15 = .ok (.iconst 1, 1) := by decide +kernel
theorem dL_raise_16 : decode cL_raise 16 = .ok (.ireturn, 1) := by decide +kernel
theorem dL_raise_17 : decode cL_raise 17 = .ok (.astore 4, 2) := by decide +kernel
theorem dL_raise_19 : decode cL_raise 19 = .ok (.iconst 2, 1) := by decide +kernel
theorem dL_raise_20 : decode cL_raise 20 = .ok (.ireturn, 1) := by decide +kernel
theorem dL_raise_21 : decode cL_raise 21 = .ok (.astore 4, 2) := by decide +kernel
theorem dL_raise_23 : decode cL_raise 23 = .ok (.iconst 3, 1) := by decide +kernel
theorem dL_raise_24 : decode cL_raise 24 = .ok (.ireturn, 1) := by decide +kernel
theorem dL_raise_25 : decode cL_raise 25 = .ok (.iconst 0, 1) := by decide +kernel
theorem dL_raise_26 : decode cL_raise 26 = .ok (.ireturn, 1) := by decide +kernel
theorem dL_setTempo_0 : decode cL_setTempo 0 = .ok (.aload_n 2, 1) := by decide +kernel
theorem dL_setTempo_1 : decode cL_setTempo 1 = .ok (.iconst 0, 1) := by decide +kernel
theorem dL_setTempo_2 : decode cL_setTempo 2 = .ok (.aload_n 0, 1) := by decide +kernel
theorem dL_setTempo_3 : decode cL_setTempo 3 = .ok (.iload_n 1, 1) := by decide +kernel
theorem dL_setTempo_4 : decode cL_setTempo 4 = .ok (.invokevirtual 43, 3) := by decide +kernel
theorem dL_setTempo_7 : decode cL_setTempo 7 = .ok (.i2l, 1) := by decide +kernel
theorem dL_setTempo_8 : decode cL_setTempo 8 = .ok (.lastore, 1) := by decide +kernel
theorem dL_setTempo_9 : decode cL_setTempo 9 = .ok (.goto 6, 3) := by decide +kernel
theorem dL_setTempo_12 : decode cL_setTempo 12 = .ok (.astore_n 3, 1) := by decide +kernel
theorem dL_setTempo_13 : decode cL_setTempo 13 = .ok (.iconst 1, 1) := by decide +kernel
theorem dL_setTempo_14 : decode cL_setTempo 14 = .ok (.ireturn, 1) := by decide +kernel
theorem dL_setTempo_15 : decode cL_setTempo 15 = .ok (.iconst 0, 1) := by decide +kernel
theorem dL_setTempo_16 : decode cL_setTempo 16 = .ok (.ireturn, 1) := by decide +kernel
theorem dL_setLimit_0 : decode cL_setLimit 0 = .ok (.aload_n 2, 1) := by decide +kernel
theorem dL_setLimit_1 : decode cL_setLimit 1 = .ok (.iconst 0, 1) := by decide +kernel
theorem dL_setLimit_2 : decode cL_setLimit 2 = .ok (.aload_n 0, 1) := by decide +kernel
theorem dL_setLimit_3 : decode cL_setLimit 3 = .ok (.iload_n 1, 1) := by decide +kernel
theorem dL_setLimit_4 : decode cL_setLimit 4 = .ok (.invokevirtual 46, 3) := by decide +kernel
theorem dL_setLimit_7 : decode cL_setLimit 7 = .ok (.i2l, 1) := by decide +kernel
theorem dL_setLimit_8 : decode cL_setLimit 8 = .ok (.lastore, 1) := by decide +kernel
theorem dL_setLimit_9 : decode cL_setLimit 9 = .ok (.goto 6, 3) := by decide +kernel
theorem dL_setLimit_12 : decode cL_setLimit 12 = .ok (.astore_n 3, 1) := by decide +kernel
theorem dL_setLimit_13 : decode cL_setLimit 13 = .ok (.iconst 1, 1) := by decide +kernel
theorem dL_setLimit_14 : decode cL_setLimit 14 = .ok (.ireturn, 1) := by decide +kernel
theorem dL_setLimit_15 : decode cL_setLimit 15 = .ok (.iconst 0, 1) := by decide +kernel
theorem dL_setLimit_16 : decode cL_setLimit 16 = .ok (.ireturn, 1) := by decide +kernel
theorem dL_conductBeats_0 : decode cL_conductBeats 0 = .ok (.aload_n 2, 1) := by decide +kernel
theorem dL_conductBeats_1 : decode cL_conductBeats 1 = .ok (.iconst 0, 1) := by decide +kernel
theorem dL_conductBeats_2 : decode cL_conductBeats 2 = .ok (.aload_n 0, 1) := by decide +kernel
theorem dL_conductBeats_3 : decode cL_conductBeats 3 = .ok (.iload_n 1, 1) := by decide +kernel
theorem dL_conductBeats_4 : decode cL_conductBeats 4 = .ok (.invokevirtual 49, 3) := by decide +kernel
theorem dL_conductBeats_7 : decode cL_conductBeats 7 = .ok (.i2l, 1) := by decide +kernel
theorem dL_conductBeats_8 : decode cL_conductBeats 8 = .ok (.lastore, 1) := by decide +kernel
theorem dL_conductBeats_9 : decode cL_conductBeats 9 = .ok (.goto 6, 3) := by decide +kernel
theorem dL_conductBeats_12 : decode cL_conductBeats 12 = .ok (.astore_n 3, 1) := by decide +kernel
theorem dL_conductBeats_13 : decode cL_conductBeats 13 = .ok (.iconst 1, 1) := by decide +kernel
theorem dL_conductBeats_14 : decode cL_conductBeats 14 = .ok (.ireturn, 1) := by decide +kernel
theorem dL_conductBeats_15 : decode cL_conductBeats 15 = .ok (.iconst 0, 1) := by decide +kernel
theorem dL_conductBeats_16 : decode cL_conductBeats 16 = .ok (.ireturn, 1) := by decide +kernel
theorem dL_kind_0 : decode cL_kind 0 = .ok (.aload_n 2, 1) := by decide +kernel
theorem dL_kind_1 : decode cL_kind 1 = .ok (.iconst 0, 1) := by decide +kernel
theorem dL_kind_2 : decode cL_kind 2 = .ok (.aload_n 0, 1) := by decide +kernel
theorem dL_kind_3 : decode cL_kind 3 = .ok (.iload_n 1, 1) := by decide +kernel
theorem dL_kind_4 : decode cL_kind 4 = .ok (.invokevirtual 52, 3) := by decide +kernel
theorem dL_kind_7 : decode cL_kind 7 = .ok (.i2l, 1) := by decide +kernel
theorem dL_kind_8 : decode cL_kind 8 = .ok (.lastore, 1) := by decide +kernel
theorem dL_kind_9 : decode cL_kind 9 = .ok (.goto 6, 3) := by decide +kernel
theorem dL_kind_12 : decode cL_kind 12 = .ok (.astore_n 3, 1) := by decide +kernel
theorem dL_kind_13 : decode cL_kind 13 = .ok (.iconst 1, 1) := by decide +kernel
theorem dL_kind_14 : decode cL_kind 14 = .ok (.ireturn, 1) := by decide +kernel
theorem dL_kind_15 : decode cL_kind 15 = .ok (.iconst 0, 1) := by decide +kernel
theorem dL_kind_16 : decode cL_kind 16 = .ok (.ireturn, 1) := by decide +kernel
theorem dL_rows_0 : decode cL_rows 0 = .ok (.aload_n 2, 1) := by decide +kernel
theorem dL_rows_1 : decode cL_rows 1 = .ok (.iconst 0, 1) := by decide +kernel
theorem dL_rows_2 : decode cL_rows 2 = .ok (.aload_n 0, 1) := by decide +kernel
theorem dL_rows_3 : decode cL_rows 3 = .ok (.iload_n 1, 1) := by decide +kernel
theorem dL_rows_4 : decode cL_rows 4 = .ok (.invokevirtual 56, 3) := by decide +kernel
theorem dL_rows_7 : decode cL_rows 7 = .ok (.i2l, 1) := by decide +kernel
theorem dL_rows_8 : decode cL_rows 8 = .ok (.lastore, 1) := by decide +kernel
theorem dL_rows_9 : decode cL_rows 9 = .ok (.goto 6, 3) := by decide +kernel
theorem dL_rows_12 : decode cL_rows 12 = .ok (.astore_n 3, 1) := by decide +kernel
theorem dL_rows_13 : decode cL_rows 13 = .ok (.iconst 1, 1) := by decide +kernel
theorem dL_rows_14 : decode cL_rows 14 = .ok (.ireturn, 1) := by decide +kernel
theorem dL_rows_15 : decode cL_rows 15 = .ok (.iconst 0, 1) := by decide +kernel
theorem dL_rows_16 : decode cL_rows 16 = .ok (.ireturn, 1) := by decide +kernel
theorem dL_columns_0 : decode cL_columns 0 = .ok (.aload_n 2, 1) := by decide +kernel
theorem dL_columns_1 : decode cL_columns 1 = .ok (.iconst 0, 1) := by decide +kernel
theorem dL_columns_2 : decode cL_columns 2 = .ok (.aload_n 0, 1) := by decide +kernel
theorem dL_columns_3 : decode cL_columns 3 = .ok (.iload_n 1, 1) := by decide +kernel
theorem dL_columns_4 : decode cL_columns 4 = .ok (.invokevirtual 59, 3) := by decide +kernel
theorem dL_columns_7 : decode cL_columns 7 = .ok (.i2l, 1) := by decide +kernel
theorem dL_columns_8 : decode cL_columns 8 = .ok (.lastore, 1) := by decide +kernel
theorem dL_columns_9 : decode cL_columns 9 = .ok (.goto 6, 3) := by decide +kernel
theorem dL_columns_12 : decode cL_columns 12 = .ok (.astore_n 3, 1) := by decide +kernel
theorem dL_columns_13 : decode cL_columns 13 = .ok (.iconst 1, 1) := by decide +kernel
theorem dL_columns_14 : decode cL_columns 14 = .ok (.ireturn, 1) := by decide +kernel
theorem dL_columns_15 : decode cL_columns 15 = .ok (.iconst 0, 1) := by decide +kernel
theorem dL_columns_16 : decode cL_columns 16 = .ok (.ireturn, 1) := by decide +kernel
theorem dL_note_0 : decode cL_note 0 = .ok (.aload 4, 2) := by decide +kernel
theorem dL_note_2 : decode cL_note 2 = .ok (.iconst 0, 1) := by decide +kernel
theorem dL_note_3 : decode cL_note 3 = .ok (.aload_n 0, 1) := by decide +kernel
theorem dL_note_4 : decode cL_note 4 = .ok (.iload_n 1, 1) := by decide +kernel
theorem dL_note_5 : decode cL_note 5 = .ok (.iload_n 2, 1) := by decide +kernel
theorem dL_note_6 : decode cL_note 6 = .ok (.iload_n 3, 1) := by decide +kernel
theorem dL_note_7 : decode cL_note 7 = .ok (.invokevirtual 62, 3) := by decide +kernel
theorem dL_note_10 : decode cL_note 10 = .ok (.i2l, 1) := by decide +kernel
theorem dL_note_11 : decode cL_note 11 = .ok (.lastore, 1) := by decide +kernel
theorem dL_note_12 : decode cL_note 12 = .ok (.goto 7, 3) := by decide +kernel
theorem dL_note_15 : decode cL_note 15 = .ok (.astore 5, 2) := by decide +kernel
theorem dL_note_17 : decode cL_note 17 = .ok (.iconst 1, 1) := by decide +kernel
theorem dL_note_18 : decode cL_note 18 = .ok (.ireturn, 1) := by decide +kernel
theorem dL_note_19 : decode cL_note 19 = .ok (.iconst 0, 1) := by decide +kernel
theorem dL_note_20 : decode cL_note 20 = .ok (.ireturn, 1) := by decide +kernel
theorem dL_isMasked_0 : decode cL_isMasked 0 = .ok (.aload_n 3, 1) := by decide +kernel
theorem dL_isMasked_1 : decode cL_isMasked 1 = .ok (.iconst 0, 1) := by decide +kernel
theorem dL_isMasked_2 : decode cL_isMasked 2 = .ok (.aload_n 0, 1) := by decide +kernel
theorem dL_isMasked_3 : decode cL_isMasked 3 = .ok (.iload_n 1, 1) := by decide +kernel
theorem dL_isMasked_4 : decode cL_isMasked 4 = .ok (.iload_n 2, 1) := by decide +kernel
theorem dL_isMasked_5 : decode cL_isMasked 5 = .ok (.invokevirtual 66, 3) := by decide +kernel
theorem dL_isMasked_8 : decode cL_isMasked 8 = .ok (.ifCond .eq 7, 3) := by decide +kernel
theorem dL_isMasked_11 : decode cL_isMasked 11 = .ok (.lconst 1, 1) := by decide +kernel
theorem dL_isMasked_12 : decode cL_isMasked 12 = .ok (.goto 4, 3) := by decide +kernel
theorem dL_isMasked_15 : decode cL_isMasked 15 = .ok (.lconst 0, 1) := by decide +kernel
theorem dL_isMasked_16 : decode cL_isMasked 16 = .ok (.lastore, 1) := by decide +kernel
theorem dL_isMasked_17 : decode cL_isMasked 17 = .ok (.goto 11, 3) := by decide +kernel
theorem dL_isMasked_20 : decode cL_isMasked 20 = .ok (.astore 4, 2) := by decide +kernel
theorem dL_isMasked_22 : decode cL_isMasked 22 = .ok (.iconst 1, 1) := by decide +kernel
theorem dL_isMasked_23 : decode cL_isMasked 23 = .ok (.ireturn, 1) := by decide +kernel
theorem dL_isMasked_24 : decode cL_isMasked 24 = .ok (.astore 4, 2) := by decide +kernel
theorem dL_isMasked_26 : decode cL_isMasked 26 = .ok (.iconst 2, 1) := by decide +kernel
theorem dL_isMasked_27 : decode cL_isMasked 27 = .ok (.ireturn, 1) := by decide +kernel
theorem dL_isMasked_28 : decode cL_isMasked 28 = .ok (.iconst 0, 1) := by decide +kernel
theorem dL_isMasked_29 : decode cL_isMasked 29 = .ok (.ireturn, 1) := by decide +kernel
theorem dL_fatigue_0 : decode cL_fatigue 0 = .ok (.aload_n 2, 1) := by decide +kernel
theorem dL_fatigue_1 : decode cL_fatigue 1 = .ok (.iconst 0, 1) := by decide +kernel
theorem dL_fatigue_2 : decode cL_fatigue 2 = .ok (.aload_n 0, 1) := by decide +kernel
theorem dL_fatigue_3 : decode cL_fatigue 3 = .ok (.iload_n 1, 1) := by decide +kernel
theorem dL_fatigue_4 : decode cL_fatigue 4 = .ok (.invokevirtual 70, 3) := by decide +kernel
theorem dL_fatigue_7 : decode cL_fatigue 7 = .ok (.i2l, 1) := by decide +kernel
theorem dL_fatigue_8 : decode cL_fatigue 8 = .ok (.lastore, 1) := by decide +kernel
theorem dL_fatigue_9 : decode cL_fatigue 9 = .ok (.goto 6, 3) := by decide +kernel
theorem dL_fatigue_12 : decode cL_fatigue 12 = .ok (.astore_n 3, 1) := by decide +kernel
theorem dL_fatigue_13 : decode cL_fatigue 13 = .ok (.iconst 1, 1) := by decide +kernel
theorem dL_fatigue_14 : decode cL_fatigue 14 = .ok (.ireturn, 1) := by decide +kernel
theorem dL_fatigue_15 : decode cL_fatigue 15 = .ok (.iconst 0, 1) := by decide +kernel
theorem dL_fatigue_16 : decode cL_fatigue 16 = .ok (.ireturn, 1) := by decide +kernel
theorem dL_restingBeats_0 : decode cL_restingBeats 0 = .ok (.aload_n 2, 1) := by decide +kernel
theorem dL_restingBeats_1 : decode cL_restingBeats 1 = .ok (.iconst 0, 1) := by decide +kernel
theorem dL_restingBeats_2 : decode cL_restingBeats 2 = .ok (.aload_n 0, 1) := by decide +kernel
theorem dL_restingBeats_3 : decode cL_restingBeats 3 = .ok (.iload_n 1, 1) := by decide +kernel
theorem dL_restingBeats_4 : decode cL_restingBeats 4 = .ok (.invokevirtual 73, 3) := by decide +kernel
theorem dL_restingBeats_7 : decode cL_restingBeats 7 = .ok (.i2l, 1) := by decide +kernel
theorem dL_restingBeats_8 : decode cL_restingBeats 8 = .ok (.lastore, 1) := by decide +kernel
theorem dL_restingBeats_9 : decode cL_restingBeats 9 = .ok (.goto 6, 3) := by decide +kernel
theorem dL_restingBeats_12 : decode cL_restingBeats 12 = .ok (.astore_n 3, 1) := by decide +kernel
theorem dL_restingBeats_13 : decode cL_restingBeats 13 = .ok (.iconst 1, 1) := by decide +kernel
theorem dL_restingBeats_14 : decode cL_restingBeats 14 = .ok (.ireturn, 1) := by decide +kernel
theorem dL_restingBeats_15 : decode cL_restingBeats 15 = .ok (.iconst 0, 1) := by decide +kernel
theorem dL_restingBeats_16 : decode cL_restingBeats 16 = .ok (.ireturn, 1) := by decide +kernel
theorem dL_isSymmetric_0 : decode cL_isSymmetric 0 = .ok (.aload_n 2, 1) := by decide +kernel
theorem dL_isSymmetric_1 : decode cL_isSymmetric 1 = .ok (.iconst 0, 1) := by decide +kernel
theorem dL_isSymmetric_2 : decode cL_isSymmetric 2 = .ok (.aload_n 0, 1) := by decide +kernel
theorem dL_isSymmetric_3 : decode cL_isSymmetric 3 = .ok (.iload_n 1, 1) := by decide +kernel
theorem dL_isSymmetric_4 : decode cL_isSymmetric 4 = .ok (.invokevirtual 76, 3) := by decide +kernel
theorem dL_isSymmetric_7 : decode cL_isSymmetric 7 = .ok (.ifCond .eq 7, 3) := by decide +kernel
theorem dL_isSymmetric_10 : decode cL_isSymmetric 10 = .ok (.lconst 1, 1) := by decide +kernel
theorem dL_isSymmetric_11 : decode cL_isSymmetric 11 = .ok (.goto 4, 3) := by decide +kernel
theorem dL_isSymmetric_14 : decode cL_isSymmetric 14 = .ok (.lconst 0, 1) := by decide +kernel
theorem dL_isSymmetric_15 : decode cL_isSymmetric 15 = .ok (.lastore, 1) := by decide +kernel
theorem dL_isSymmetric_16 : decode cL_isSymmetric 16 = .ok (.goto 6, 3) := by decide +kernel
theorem dL_isSymmetric_19 : decode cL_isSymmetric 19 = .ok (.astore_n 3, 1) := by decide +kernel
theorem dL_isSymmetric_20 : decode cL_isSymmetric 20 = .ok (.iconst 1, 1) := by decide +kernel
theorem dL_isSymmetric_21 : decode cL_isSymmetric 21 = .ok (.ireturn, 1) := by decide +kernel
theorem dL_isSymmetric_22 : decode cL_isSymmetric 22 = .ok (.iconst 0, 1) := by decide +kernel
theorem dL_isSymmetric_23 : decode cL_isSymmetric 23 = .ok (.ireturn, 1) := by decide +kernel
theorem dL_areAlike_0 : decode cL_areAlike 0 = .ok (.aload_n 3, 1) := by decide +kernel
theorem dL_areAlike_1 : decode cL_areAlike 1 = .ok (.iconst 0, 1) := by decide +kernel
theorem dL_areAlike_2 : decode cL_areAlike 2 = .ok (.aload_n 0, 1) := by decide +kernel
theorem dL_areAlike_3 : decode cL_areAlike 3 = .ok (.iload_n 1, 1) := by decide +kernel
theorem dL_areAlike_4 : decode cL_areAlike 4 = .ok (.iload_n 2, 1) := by decide +kernel
theorem dL_areAlike_5 : decode cL_areAlike 5 = .ok (.invokevirtual 80, 3) := by decide +kernel
theorem dL_areAlike_8 : decode cL_areAlike 8 = .ok (.ifCond .eq 7, 3) := by decide +kernel
theorem dL_areAlike_11 : decode cL_areAlike 11 = .ok (.lconst 1, 1) := by decide +kernel
theorem dL_areAlike_12 : decode cL_areAlike 12 = .ok (.goto 4, 3) := by decide +kernel
theorem dL_areAlike_15 : decode cL_areAlike 15 = .ok (.lconst 0, 1) := by decide +kernel
theorem dL_areAlike_16 : decode cL_areAlike 16 = .ok (.lastore, 1) := by decide +kernel
theorem dL_areAlike_17 : decode cL_areAlike 17 = .ok (.goto 7, 3) := by decide +kernel
theorem dL_areAlike_20 : decode cL_areAlike 20 = .ok (.astore 4, 2) := by decide +kernel
theorem dL_areAlike_22 : decode cL_areAlike 22 = .ok (.iconst 1, 1) := by decide +kernel
theorem dL_areAlike_23 : decode cL_areAlike 23 = .ok (.ireturn, 1) := by decide +kernel
theorem dL_areAlike_24 : decode cL_areAlike 24 = .ok (.iconst 0, 1) := by decide +kernel
theorem dL_areAlike_25 : decode cL_areAlike 25 = .ok (.ireturn, 1) := by decide +kernel
theorem dL_noteVolume_0 : decode cL_noteVolume 0 = .ok (.aload_n 3, 1) := by decide +kernel
theorem dL_noteVolume_1 : decode cL_noteVolume 1 = .ok (.iconst 0, 1) := by decide +kernel
theorem dL_noteVolume_2 : decode cL_noteVolume 2 = .ok (.aload_n 0, 1) := by decide +kernel
theorem dL_noteVolume_3 : decode cL_noteVolume 3 = .ok (.iload_n 1, 1) := by decide +kernel
theorem dL_noteVolume_4 : decode cL_noteVolume 4 = .ok (.iload_n 2, 1) := by decide +kernel
theorem dL_noteVolume_5 : decode cL_noteVolume 5 = .ok (.invokevirtual 83, 3) := by decide +kernel
theorem dL_noteVolume_8 : decode cL_noteVolume 8 = .ok (.i2l, 1) := by decide +kernel
theorem dL_noteVolume_9 : decode cL_noteVolume 9 = .ok (.lastore, 1) := by decide +kernel
theorem dL_noteVolume_10 : decode cL_noteVolume 10 = .ok (.goto 7, 3) := by decide +kernel
theorem dL_noteVolume_13 : decode cL_noteVolume 13 = .ok (.astore 4, 2) := by decide +kernel
theorem dL_noteVolume_15 : decode cL_noteVolume 15 = .ok (.iconst 1, 1) := by decide +kernel
theorem dL_noteVolume_16 : decode cL_noteVolume 16 = .ok (.ireturn, 1) := by decide +kernel
theorem dL_noteVolume_17 : decode cL_noteVolume 17 = .ok (.iconst 0, 1) := by decide +kernel
theorem dL_noteVolume_18 : decode cL_noteVolume 18 = .ok (.ireturn, 1) := by decide +kernel
theorem dL_columnVolume_0 : decode cL_columnVolume 0 = .ok (.aload_n 3, 1) := by decide +kernel
theorem dL_columnVolume_1 : decode cL_columnVolume 1 = .ok (.iconst 0, 1) := by decide +kernel
theorem dL_columnVolume_2 : decode cL_columnVolume 2 = .ok (.aload_n 0, 1) := by decide +kernel
theorem dL_columnVolume_3 : decode cL_columnVolume 3 = .ok (.iload_n 1, 1) := by decide +kernel
theorem dL_columnVolume_4 : decode cL_columnVolume 4 = .ok (.iload_n 2, 1) := by decide +kernel
theorem dL_columnVolume_5 : decode cL_columnVolume 5 = .ok (.invokevirtual 87, 3) := by decide +kernel
theorem dL_columnVolume_8 : decode cL_columnVolume 8 = .ok (.i2l, 1) := by decide +kernel
theorem dL_columnVolume_9 : decode cL_columnVolume 9 = .ok (.lastore, 1) := by decide +kernel
theorem dL_columnVolume_10 : decode cL_columnVolume 10 = .ok (.goto 7, 3) := by decide +kernel
theorem dL_columnVolume_13 : decode cL_columnVolume 13 = .ok (.astore 4, 2) := by decide +kernel
theorem dL_columnVolume_15 : decode cL_columnVolume 15 = .ok (.iconst 1, 1) := by decide +kernel
theorem dL_columnVolume_16 : decode cL_columnVolume 16 = .ok (.ireturn, 1) := by decide +kernel
theorem dL_columnVolume_17 : decode cL_columnVolume 17 = .ok (.iconst 0, 1) := by decide +kernel
theorem dL_columnVolume_18 : decode cL_columnVolume 18 = .ok (.ireturn, 1) := by decide +kernel
theorem dL_columnVolumeByTransposing_0 : decode cL_columnVolumeByTransposing 0 = .ok (.aload_n 3, 1) := by decide +kernel
theorem dL_columnVolumeByTransposing_1 : decode cL_columnVolumeByTransposing 1 = .ok (.iconst 0, 1) := by decide +kernel
theorem dL_columnVolumeByTransposing_2 : decode cL_columnVolumeByTransposing 2 = .ok (.aload_n 0, 1) := by decide +kernel
theorem dL_columnVolumeByTransposing_3 : decode cL_columnVolumeByTransposing 3 = .ok (.iload_n 1, 1) := by decide +kernel
theorem dL_columnVolumeByTransposing_4 : decode cL_columnVolumeByTransposing 4 = .ok (.iload_n 2, 1) := by decide +kernel
theorem dL_columnVolumeByTransposing_5 : decode cL_columnVolumeByTransposing 5 = .ok (.invokevirtual 90, 3) := by decide +kernel
theorem dL_columnVolumeByTransposing_8 : decode cL_columnVolumeByTransposing 8 = .ok (.i2l, 1) := by decide +kernel
theorem dL_columnVolumeByTransposing_9 : decode cL_columnVolumeByTransposing 9 = .ok (.lastore, 1) := by decide +kernel
theorem dL_columnVolumeByTransposing_10 : decode cL_columnVolumeByTransposing 10 = .ok (.goto 7, 3) := by decide +kernel
theorem dL_columnVolumeByTransposing_13 : decode cL_columnVolumeByTransposing 13 = .ok (.astore 4, 2) := by decide +kernel
theorem dL_columnVolumeByTransposing_15 : decode cL_columnVolumeByTransposing 15 = .ok (.iconst 1, 1) := by decide +kernel
theorem dL_columnVolumeByTransposing_16 : decode cL_columnVolumeByTransposing 16 = .ok (.ireturn, 1) := by decide +kernel
theorem dL_columnVolumeByTransposing_17 : decode cL_columnVolumeByTransposing 17 = .ok (.iconst 0, 1) := by decide +kernel
theorem dL_columnVolumeByTransposing_18 : decode cL_columnVolumeByTransposing 18 = .ok (.ireturn, 1) := by decide +kernel
theorem dL_nextVolume_0 : decode cL_nextVolume 0 = .ok (.aload_n 2, 1) := by decide +kernel
theorem dL_nextVolume_1 : decode cL_nextVolume 1 = .ok (.iconst 0, 1) := by decide +kernel
theorem dL_nextVolume_2 : decode cL_nextVolume 2 = .ok (.aload_n 0, 1) := by decide +kernel
theorem dL_nextVolume_3 : decode cL_nextVolume 3 = .ok (.iload_n 1, 1) := by decide +kernel
theorem dL_nextVolume_4 : decode cL_nextVolume 4 = .ok (.invokevirtual 93, 3) := by decide +kernel
theorem dL_nextVolume_7 : decode cL_nextVolume 7 = .ok (.i2l, 1) := by decide +kernel
theorem dL_nextVolume_8 : decode cL_nextVolume 8 = .ok (.lastore, 1) := by decide +kernel
theorem dL_nextVolume_9 : decode cL_nextVolume 9 = .ok (.goto 6, 3) := by decide +kernel
theorem dL_nextVolume_12 : decode cL_nextVolume 12 = .ok (.astore_n 3, 1) := by decide +kernel
theorem dL_nextVolume_13 : decode cL_nextVolume 13 = .ok (.iconst 1, 1) := by decide +kernel
theorem dL_nextVolume_14 : decode cL_nextVolume 14 = .ok (.ireturn, 1) := by decide +kernel
theorem dL_nextVolume_15 : decode cL_nextVolume 15 = .ok (.iconst 0, 1) := by decide +kernel
theorem dL_nextVolume_16 : decode cL_nextVolume 16 = .ok (.ireturn, 1) := by decide +kernel
theorem dL_beatsUntilBreak_0 : decode cL_beatsUntilBreak 0 = .ok (.aload_n 1, 1) := by decide +kernel
theorem dL_beatsUntilBreak_1 : decode cL_beatsUntilBreak 1 = .ok (.iconst 0, 1) := by decide +kernel
theorem dL_beatsUntilBreak_2 : decode cL_beatsUntilBreak 2 = .ok (.aload_n 0, 1) := by decide +kernel
theorem dL_beatsUntilBreak_3 : decode cL_beatsUntilBreak 3 = .ok (.invokevirtual 96, 3) := by decide +kernel
theorem dL_beatsUntilBreak_6 : decode cL_beatsUntilBreak 6 = .ok (.i2l, 1) := by decide +kernel
theorem dL_beatsUntilBreak_7 : decode cL_beatsUntilBreak 7 = .ok (.lastore, 1) := by decide +kernel
theorem dL_beatsUntilBreak_8 : decode cL_beatsUntilBreak 8 = .ok (.goto 6, 3) := by decide +kernel
theorem dL_beatsUntilBreak_11 : decode cL_beatsUntilBreak 11 = .ok (.astore_n 2, 1) := by decide +kernel
theorem dL_beatsUntilBreak_12 : decode cL_beatsUntilBreak 12 = .ok (.iconst 1, 1) := by decide +kernel
theorem dL_beatsUntilBreak_13 : decode cL_beatsUntilBreak 13 = .ok (.ireturn, 1) := by decide +kernel
theorem dL_beatsUntilBreak_14 : decode cL_beatsUntilBreak 14 = .ok (.iconst 0, 1) := by decide +kernel
theorem dL_beatsUntilBreak_15 : decode cL_beatsUntilBreak 15 = .ok (.ireturn, 1) := by decide +kernel
theorem dL_totalWithin_0 : decode cL_totalWithin 0 = .ok (.aload_n 2, 1) := by decide +kernel
theorem dL_totalWithin_1 : decode cL_totalWithin 1 = .ok (.iconst 0, 1) := by decide +kernel
theorem dL_totalWithin_2 : decode cL_totalWithin 2 = .ok (.aload_n 0, 1) := by decide +kernel
theorem dL_totalWithin_3 : decode cL_totalWithin 3 = .ok (.iload_n 1, 1) := by decide +kernel
theorem dL_totalWithin_4 : decode cL_totalWithin 4 = .ok (.invokevirtual 102, 3) := by decide +kernel
theorem dL_totalWithin_7 : decode cL_totalWithin 7 = .ok (.i2l, 1) := by decide +kernel
theorem dL_totalWithin_8 : decode cL_totalWithin 8 = .ok (.lastore, 1) := by decide +kernel
theorem dL_totalWithin_9 : decode cL_totalWithin 9 = .ok (.goto 6, 3) := by decide +kernel
theorem dL_totalWithin_12 : decode cL_totalWithin 12 = .ok (.astore_n 3, 1) := by decide +kernel
theorem dL_totalWithin_13 : decode cL_totalWithin 13 = .ok (.iconst 1, 1) := by decide +kernel
theorem dL_totalWithin_14 : decode cL_totalWithin 14 = .ok (.ireturn, 1) := by decide +kernel
theorem dL_totalWithin_15 : decode cL_totalWithin 15 = .ok (.iconst 0, 1) := by decide +kernel
theorem dL_totalWithin_16 : decode cL_totalWithin 16 = .ok (.ireturn, 1) := by decide +kernel
theorem dL_playedVolume_0 : decode cL_playedVolume 0 = .ok (.aload_n 2, 1) := by decide +kernel
theorem dL_playedVolume_1 : decode cL_playedVolume 1 = .ok (.iconst 0, 1) := by decide +kernel
theorem dL_playedVolume_2 : decode cL_playedVolume 2 = .ok (.aload_n 0, 1) := by decide +kernel
theorem dL_playedVolume_3 : decode cL_playedVolume 3 = .ok (.iload_n 1, 1) := by decide +kernel
theorem dL_playedVolume_4 : decode cL_playedVolume 4 = .ok (.invokevirtual 105, 3) := by decide +kernel
theorem dL_playedVolume_7 : decode cL_playedVolume 7 = .ok (.i2l, 1) := by decide +kernel
theorem dL_playedVolume_8 : decode cL_playedVolume 8 = .ok (.lastore, 1) := by decide +kernel
theorem dL_playedVolume_9 : decode cL_playedVolume 9 = .ok (.goto 6, 3) := by decide +kernel
theorem dL_playedVolume_12 : decode cL_playedVolume 12 = .ok (.astore_n 3, 1) := by decide +kernel
theorem dL_playedVolume_13 : decode cL_playedVolume 13 = .ok (.iconst 1, 1) := by decide +kernel
theorem dL_playedVolume_14 : decode cL_playedVolume 14 = .ok (.ireturn, 1) := by decide +kernel
theorem dL_playedVolume_15 : decode cL_playedVolume 15 = .ok (.iconst 0, 1) := by decide +kernel
theorem dL_playedVolume_16 : decode cL_playedVolume 16 = .ok (.ireturn, 1) := by decide +kernel
theorem dL_soundCount_0 : decode cL_soundCount 0 = .ok (.aload_n 3, 1) := by decide +kernel
theorem dL_soundCount_1 : decode cL_soundCount 1 = .ok (.iconst 0, 1) := by decide +kernel
theorem dL_soundCount_2 : decode cL_soundCount 2 = .ok (.aload_n 0, 1) := by decide +kernel
theorem dL_soundCount_3 : decode cL_soundCount 3 = .ok (.iload_n 1, 1) := by decide +kernel
theorem dL_soundCount_4 : decode cL_soundCount 4 = .ok (.iload_n 2, 1) := by decide +kernel
theorem dL_soundCount_5 : decode cL_soundCount 5 = .ok (.invokevirtual 108, 3) := by decide +kernel
theorem dL_soundCount_8 : decode cL_soundCount 8 = .ok (.i2l, 1) := by decide +kernel
theorem dL_soundCount_9 : decode cL_soundCount 9 = .ok (.lastore, 1) := by decide +kernel
theorem dL_soundCount_10 : decode cL_soundCount 10 = .ok (.goto 7, 3) := by decide +kernel
theorem dL_soundCount_13 : decode cL_soundCount 13 = .ok (.astore 4, 2) := by decide +kernel
theorem dL_soundCount_15 : decode cL_soundCount 15 = .ok (.iconst 1, 1) := by decide +kernel
theorem dL_soundCount_16 : decode cL_soundCount 16 = .ok (.ireturn, 1) := by decide +kernel
theorem dL_soundCount_17 : decode cL_soundCount 17 = .ok (.iconst 0, 1) := by decide +kernel
theorem dL_soundCount_18 : decode cL_soundCount 18 = .ok (.ireturn, 1) := by decide +kernel
theorem dL_greatestTotal_0 : decode cL_greatestTotal 0 = .ok (.aload_n 1, 1) := by decide +kernel
theorem dL_greatestTotal_1 : decode cL_greatestTotal 1 = .ok (.iconst 0, 1) := by decide +kernel
theorem dL_greatestTotal_2 : decode cL_greatestTotal 2 = .ok (.aload_n 0, 1) := by decide +kernel
theorem dL_greatestTotal_3 : decode cL_greatestTotal 3 = .ok (.invokevirtual 111, 3) := by decide +kernel
theorem dL_greatestTotal_6 : decode cL_greatestTotal 6 = .ok (.i2l, 1) := by decide +kernel
theorem dL_greatestTotal_7 : decode cL_greatestTotal 7 = .ok (.lastore, 1) := by decide +kernel
theorem dL_greatestTotal_8 : decode cL_greatestTotal 8 = .ok (.goto 6, 3) := by decide +kernel
theorem dL_greatestTotal_11 : decode cL_greatestTotal 11 = .ok (.astore_n 2, 1) := by decide +kernel
theorem dL_greatestTotal_12 : decode cL_greatestTotal 12 = .ok (.iconst 1, 1) := by decide +kernel
theorem dL_greatestTotal_13 : decode cL_greatestTotal 13 = .ok (.ireturn, 1) := by decide +kernel
theorem dL_greatestTotal_14 : decode cL_greatestTotal 14 = .ok (.iconst 0, 1) := by decide +kernel
theorem dL_greatestTotal_15 : decode cL_greatestTotal 15 = .ok (.ireturn, 1) := by decide +kernel
theorem dL_loggedTotal_0 : decode cL_loggedTotal 0 = .ok (.aload_n 2, 1) := by decide +kernel
theorem dL_loggedTotal_1 : decode cL_loggedTotal 1 = .ok (.iconst 0, 1) := by decide +kernel
theorem dL_loggedTotal_2 : decode cL_loggedTotal 2 = .ok (.aload_n 0, 1) := by decide +kernel
theorem dL_loggedTotal_3 : decode cL_loggedTotal 3 = .ok (.iload_n 1, 1) := by decide +kernel
theorem dL_loggedTotal_4 : decode cL_loggedTotal 4 = .ok (.invokevirtual 114, 3) := by decide +kernel
theorem dL_loggedTotal_7 : decode cL_loggedTotal 7 = .ok (.i2l, 1) := by decide +kernel
theorem dL_loggedTotal_8 : decode cL_loggedTotal 8 = .ok (.lastore, 1) := by decide +kernel
theorem dL_loggedTotal_9 : decode cL_loggedTotal 9 = .ok (.goto 6, 3) := by decide +kernel
theorem dL_loggedTotal_12 : decode cL_loggedTotal 12 = .ok (.astore_n 3, 1) := by decide +kernel
theorem dL_loggedTotal_13 : decode cL_loggedTotal 13 = .ok (.iconst 1, 1) := by decide +kernel
theorem dL_loggedTotal_14 : decode cL_loggedTotal 14 = .ok (.ireturn, 1) := by decide +kernel
theorem dL_loggedTotal_15 : decode cL_loggedTotal 15 = .ok (.iconst 0, 1) := by decide +kernel
theorem dL_loggedTotal_16 : decode cL_loggedTotal 16 = .ok (.ireturn, 1) := by decide +kernel
theorem dL_sectionByVolume_0 : decode cL_sectionByVolume 0 = .ok (.aload_n 2, 1) := by decide +kernel
theorem dL_sectionByVolume_1 : decode cL_sectionByVolume 1 = .ok (.iconst 0, 1) := by decide +kernel
theorem dL_sectionByVolume_2 : decode cL_sectionByVolume 2 = .ok (.aload_n 0, 1) := by decide +kernel
theorem dL_sectionByVolume_3 : decode cL_sectionByVolume 3 = .ok (.iload_n 1, 1) := by decide +kernel
theorem dL_sectionByVolume_4 : decode cL_sectionByVolume 4 = .ok (.invokevirtual 117, 3) := by decide +kernel
theorem dL_sectionByVolume_7 : decode cL_sectionByVolume 7 = .ok (.i2l, 1) := by decide +kernel
theorem dL_sectionByVolume_8 : decode cL_sectionByVolume 8 = .ok (.lastore, 1) := by decide +kernel
theorem dL_sectionByVolume_9 : decode cL_sectionByVolume 9 = .ok (.goto 6, 3) := by decide +kernel
theorem dL_sectionByVolume_12 : decode cL_sectionByVolume 12 = .ok (.astore_n 3, 1) := by decide +kernel
theorem dL_sectionByVolume_13 : decode cL_sectionByVolume 13 = .ok (.iconst 1, 1) := by decide +kernel
theorem dL_sectionByVolume_14 : decode cL_sectionByVolume 14 = .ok (.ireturn, 1) := by decide +kernel
theorem dL_sectionByVolume_15 : decode cL_sectionByVolume 15 = .ok (.iconst 0, 1) := by decide +kernel
theorem dL_sectionByVolume_16 : decode cL_sectionByVolume 16 = .ok (.ireturn, 1) := by decide +kernel
theorem dL_noteBySounds_0 : decode cL_noteBySounds 0 = .ok (.aload_n 2, 1) := by decide +kernel
theorem dL_noteBySounds_1 : decode cL_noteBySounds 1 = .ok (.iconst 0, 1) := by decide +kernel
theorem dL_noteBySounds_2 : decode cL_noteBySounds 2 = .ok (.aload_n 0, 1) := by decide +kernel
theorem dL_noteBySounds_3 : decode cL_noteBySounds 3 = .ok (.iload_n 1, 1) := by decide +kernel
theorem dL_noteBySounds_4 : decode cL_noteBySounds 4 = .ok (.invokevirtual 120, 3) := by decide +kernel
theorem dL_noteBySounds_7 : decode cL_noteBySounds 7 = .ok (.i2l, 1) := by decide +kernel
theorem dL_noteBySounds_8 : decode cL_noteBySounds 8 = .ok (.lastore, 1) := by decide +kernel
theorem dL_noteBySounds_9 : decode cL_noteBySounds 9 = .ok (.goto 6, 3) := by decide +kernel
theorem dL_noteBySounds_12 : decode cL_noteBySounds 12 = .ok (.astore_n 3, 1) := by decide +kernel
theorem dL_noteBySounds_13 : decode cL_noteBySounds 13 = .ok (.iconst 1, 1) := by decide +kernel
theorem dL_noteBySounds_14 : decode cL_noteBySounds 14 = .ok (.ireturn, 1) := by decide +kernel
theorem dL_noteBySounds_15 : decode cL_noteBySounds 15 = .ok (.iconst 0, 1) := by decide +kernel
theorem dL_noteBySounds_16 : decode cL_noteBySounds 16 = .ok (.ireturn, 1) := by decide +kernel
theorem dL_meanTotal_0 : decode cL_meanTotal 0 = .ok (.aload_n 1, 1) := by decide +kernel
theorem dL_meanTotal_1 : decode cL_meanTotal 1 = .ok (.iconst 0, 1) := by decide +kernel
theorem dL_meanTotal_2 : decode cL_meanTotal 2 = .ok (.aload_n 0, 1) := by decide +kernel
theorem dL_meanTotal_3 : decode cL_meanTotal 3 = .ok (.invokevirtual 123, 3) := by decide +kernel
theorem dL_meanTotal_6 : decode cL_meanTotal 6 = .ok (.dastore, 1) := by decide +kernel
theorem dL_meanTotal_7 : decode cL_meanTotal 7 = .ok (.goto 6, 3) := by decide +kernel
theorem dL_meanTotal_10 : decode cL_meanTotal 10 = .ok (.astore_n 2, 1) := by decide +kernel
theorem dL_meanTotal_11 : decode cL_meanTotal 11 = .ok (.iconst 1, 1) := by decide +kernel
theorem dL_meanTotal_12 : decode cL_meanTotal 12 = .ok (.ireturn, 1) := by decide +kernel
theorem dL_meanTotal_13 : decode cL_meanTotal 13 = .ok (.iconst 0, 1) := by decide +kernel
theorem dL_meanTotal_14 : decode cL_meanTotal 14 = .ok (.ireturn, 1) := by decide +kernel
theorem dL_maskedShare_0 : decode cL_maskedShare 0 = .ok (.aload_n 2, 1) := by decide +kernel
theorem dL_maskedShare_1 : decode cL_maskedShare 1 = .ok (.iconst 0, 1) := by decide +kernel
theorem dL_maskedShare_2 : decode cL_maskedShare 2 = .ok (.aload_n 0, 1) := by decide +kernel
theorem dL_maskedShare_3 : decode cL_maskedShare 3 = .ok (.iload_n 1, 1) := by decide +kernel
theorem dL_maskedShare_4 : decode cL_maskedShare 4 = .ok (.invokevirtual 129, 3) := by decide +kernel
theorem dL_maskedShare_7 : decode cL_maskedShare 7 = .ok (.f2d, 1) := by decide +kernel
theorem dL_maskedShare_8 : decode cL_maskedShare 8 = .ok (.dastore, 1) := by decide +kernel
theorem dL_maskedShare_9 : decode cL_maskedShare 9 = .ok (.goto 6, 3) := by decide +kernel
theorem dL_maskedShare_12 : decode cL_maskedShare 12 = .ok (.astore_n 3, 1) := by decide +kernel
theorem dL_maskedShare_13 : decode cL_maskedShare 13 = .ok (.iconst 1, 1) := by decide +kernel
theorem dL_maskedShare_14 : decode cL_maskedShare 14 = .ok (.ireturn, 1) := by decide +kernel
theorem dL_maskedShare_15 : decode cL_maskedShare 15 = .ok (.iconst 0, 1) := by decide +kernel
theorem dL_maskedShare_16 : decode cL_maskedShare 16 = .ok (.ireturn, 1) := by decide +kernel
theorem dL_renderScore_0 : decode cL_renderScore 0 = .ok (.aload_n 2, 1) := by decide +kernel
theorem dL_renderScore_1 : decode cL_renderScore 1 = .ok (.iconst 0, 1) := by decide +kernel
theorem dL_renderScore_2 : decode cL_renderScore 2 = .ok (.aload_n 0, 1) := by decide +kernel
theorem dL_renderScore_3 : decode cL_renderScore 3 = .ok (.iload_n 1, 1) := by decide +kernel
theorem dL_renderScore_4 : decode cL_renderScore 4 = .ok (.invokevirtual 133, 3) := by decide +kernel
theorem dL_renderScore_7 : decode cL_renderScore 7 = .ok (.i2l, 1) := by decide +kernel
theorem dL_renderScore_8 : decode cL_renderScore 8 = .ok (.lastore, 1) := by decide +kernel
theorem dL_renderScore_9 : decode cL_renderScore 9 = .ok (.goto 6, 3) := by decide +kernel
theorem dL_renderScore_12 : decode cL_renderScore 12 = .ok (.astore_n 3, 1) := by decide +kernel
theorem dL_renderScore_13 : decode cL_renderScore 13 = .ok (.iconst 1, 1) := by decide +kernel
theorem dL_renderScore_14 : decode cL_renderScore 14 = .ok (.ireturn, 1) := by decide +kernel
theorem dL_renderScore_15 : decode cL_renderScore 15 = .ok (.iconst 0, 1) := by decide +kernel
theorem dL_renderScore_16 : decode cL_renderScore 16 = .ok (.ireturn, 1) := by decide +kernel
theorem dL_renderMask_0 : decode cL_renderMask 0 = .ok (.aload_n 2, 1) := by decide +kernel
theorem dL_renderMask_1 : decode cL_renderMask 1 = .ok (.iconst 0, 1) := by decide +kernel
theorem dL_renderMask_2 : decode cL_renderMask 2 = .ok (.aload_n 0, 1) := by decide +kernel
theorem dL_renderMask_3 : decode cL_renderMask 3 = .ok (.iload_n 1, 1) := by decide +kernel
theorem dL_renderMask_4 : decode cL_renderMask 4 = .ok (.invokevirtual 136, 3) := by decide +kernel
theorem dL_renderMask_7 : decode cL_renderMask 7 = .ok (.i2l, 1) := by decide +kernel
theorem dL_renderMask_8 : decode cL_renderMask 8 = .ok (.lastore, 1) := by decide +kernel
theorem dL_renderMask_9 : decode cL_renderMask 9 = .ok (.goto 6, 3) := by decide +kernel
theorem dL_renderMask_12 : decode cL_renderMask 12 = .ok (.astore_n 3, 1) := by decide +kernel
theorem dL_renderMask_13 : decode cL_renderMask 13 = .ok (.iconst 1, 1) := by decide +kernel
theorem dL_renderMask_14 : decode cL_renderMask 14 = .ok (.ireturn, 1) := by decide +kernel
theorem dL_renderMask_15 : decode cL_renderMask 15 = .ok (.iconst 0, 1) := by decide +kernel
theorem dL_renderMask_16 : decode cL_renderMask 16 = .ok (.ireturn, 1) := by decide +kernel
theorem dL_outputAt_0 : decode cL_outputAt 0 = .ok (.aload_n 2, 1) := by decide +kernel
theorem dL_outputAt_1 : decode cL_outputAt 1 = .ok (.iconst 0, 1) := by decide +kernel
theorem dL_outputAt_2 : decode cL_outputAt 2 = .ok (.aload_n 0, 1) := by decide +kernel
theorem dL_outputAt_3 : decode cL_outputAt 3 = .ok (.iload_n 1, 1) := by decide +kernel
theorem dL_outputAt_4 : decode cL_outputAt 4 = .ok (.invokevirtual 139, 3) := by decide +kernel
theorem dL_outputAt_7 : decode cL_outputAt 7 = .ok (.i2l, 1) := by decide +kernel
theorem dL_outputAt_8 : decode cL_outputAt 8 = .ok (.lastore, 1) := by decide +kernel
theorem dL_outputAt_9 : decode cL_outputAt 9 = .ok (.goto 6, 3) := by decide +kernel
theorem dL_outputAt_12 : decode cL_outputAt 12 = .ok (.astore_n 3, 1) := by decide +kernel
theorem dL_outputAt_13 : decode cL_outputAt 13 = .ok (.iconst 1, 1) := by decide +kernel
theorem dL_outputAt_14 : decode cL_outputAt 14 = .ok (.ireturn, 1) := by decide +kernel
theorem dL_outputAt_15 : decode cL_outputAt 15 = .ok (.iconst 0, 1) := by decide +kernel
theorem dL_outputAt_16 : decode cL_outputAt 16 = .ok (.ireturn, 1) := by decide +kernel
theorem dL_type_0 : decode cL_type 0 = .ok (.aload_n 2, 1) := by decide +kernel
theorem dL_type_1 : decode cL_type 1 = .ok (.iconst 0, 1) := by decide +kernel
theorem dL_type_2 : decode cL_type 2 = .ok (.aload_n 0, 1) := by decide +kernel
theorem dL_type_3 : decode cL_type 3 = .ok (.iload_n 1, 1) := by decide +kernel
theorem dL_type_4 : decode cL_type 4 = .ok (.invokevirtual 142, 3) := by decide +kernel
theorem dL_type_7 : decode cL_type 7 = .ok (.i2l, 1) := by decide +kernel
theorem dL_type_8 : decode cL_type 8 = .ok (.lastore, 1) := by decide +kernel
theorem dL_type_9 : decode cL_type 9 = .ok (.goto 9, 3) := by decide +kernel
theorem dL_type_12 : decode cL_type 12 = .ok (.astore_n 3, 1) := by decide +kernel
theorem dL_type_13 : decode cL_type 13 = .ok (.iconst 1, 1) := by decide +kernel
theorem dL_type_14 : decode cL_type 14 = .ok (.ireturn, 1) := by decide +kernel
theorem dL_type_15 : decode cL_type 15 = .ok (.astore_n 3, 1) := by decide +kernel
theorem dL_type_16 : decode cL_type 16 = .ok (.iconst 2, 1) := by decide +kernel
theorem dL_type_17 : decode cL_type 17 = .ok (.ireturn, 1) := by decide +kernel
theorem dL_type_18 : decode cL_type 18 = .ok (.iconst 0, 1) := by decide +kernel
theorem dL_type_19 : decode cL_type 19 = .ok (.ireturn, 1) := by decide +kernel
theorem dL_runScript_0 : decode cL_runScript 0 = .ok (.aload_n 1, 1) := by decide +kernel
theorem dL_runScript_1 : decode cL_runScript 1 = .ok (.iconst 0, 1) := by decide +kernel
theorem dL_runScript_2 : decode cL_runScript 2 = .ok (.aload_n 0, 1) := by decide +kernel
theorem dL_runScript_3 : decode cL_runScript 3 = .ok (.invokevirtual 146, 3) := by decide +kernel
theorem dL_runScript_6 : decode cL_runScript 6 = .ok (.i2l, 1) := by decide +kernel
theorem dL_runScript_7 : decode cL_runScript 7 = .ok (.lastore, 1) := by decide +kernel
theorem dL_runScript_8 : decode cL_runScript 8 = .ok (.goto 9, 3) := by decide +kernel
theorem dL_runScript_11 : decode cL_runScript 11 = .ok (.astore_n 2, 1) := by decide +kernel
theorem dL_runScript_12 : decode cL_runScript 12 = .ok (.iconst 1, 1) := by decide +kernel
theorem dL_runScript_13 : decode cL_runScript 13 = .ok (.ireturn, 1) := by decide +kernel
theorem dL_runScript_14 : decode cL_runScript 14 = .ok (.astore_n 2, 1) := by decide +kernel
theorem dL_runScript_15 : decode cL_runScript 15 = .ok (.iconst 2, 1) := by decide +kernel
theorem dL_runScript_16 : decode cL_runScript 16 = .ok (.ireturn, 1) := by decide +kernel
theorem dL_runScript_17 : decode cL_runScript 17 = .ok (.iconst 0, 1) := by decide +kernel
theorem dL_runScript_18 : decode cL_runScript 18 = .ok (.ireturn, 1) := by decide +kernel
theorem dL_errorPosition_0 : decode cL_errorPosition 0 = .ok (.aload_n 1, 1) := by decide +kernel
theorem dL_errorPosition_1 : decode cL_errorPosition 1 = .ok (.iconst 0, 1) := by decide +kernel
theorem dL_errorPosition_2 : decode cL_errorPosition 2 = .ok (.aload_n 0, 1) := by decide +kernel
theorem dL_errorPosition_3 : decode cL_errorPosition 3 = .ok (.invokevirtual 149, 3) := by decide +kernel
theorem dL_errorPosition_6 : decode cL_errorPosition 6 = .ok (.i2l, 1) := by decide +kernel
theorem dL_errorPosition_7 : decode cL_errorPosition 7 = .ok (.lastore, 1) := by decide +kernel
theorem dL_errorPosition_8 : decode cL_errorPosition 8 = .ok (.goto 6, 3) := by decide +kernel
theorem dL_errorPosition_11 : decode cL_errorPosition 11 = .ok (.astore_n 2, 1) := by decide +kernel
theorem dL_errorPosition_12 : decode cL_errorPosition 12 = .ok (.iconst 1, 1) := by decide +kernel
theorem dL_errorPosition_13 : decode cL_errorPosition 13 = .ok (.ireturn, 1) := by decide +kernel
theorem dL_errorPosition_14 : decode cL_errorPosition 14 = .ok (.iconst 0, 1) := by decide +kernel
theorem dL_errorPosition_15 : decode cL_errorPosition 15 = .ok (.ireturn, 1) := by decide +kernel
theorem dL_failedCommand_0 : decode cL_failedCommand 0 = .ok (.aload_n 1, 1) := by decide +kernel
theorem dL_failedCommand_1 : decode cL_failedCommand 1 = .ok (.iconst 0, 1) := by decide +kernel
theorem dL_failedCommand_2 : decode cL_failedCommand 2 = .ok (.aload_n 0, 1) := by decide +kernel
theorem dL_failedCommand_3 : decode cL_failedCommand 3 = .ok (.invokevirtual 152, 3) := by decide +kernel
theorem dL_failedCommand_6 : decode cL_failedCommand 6 = .ok (.i2l, 1) := by decide +kernel
theorem dL_failedCommand_7 : decode cL_failedCommand 7 = .ok (.lastore, 1) := by decide +kernel
theorem dL_failedCommand_8 : decode cL_failedCommand 8 = .ok (.goto 6, 3) := by decide +kernel
theorem dL_failedCommand_11 : decode cL_failedCommand 11 = .ok (.astore_n 2, 1) := by decide +kernel
theorem dL_failedCommand_12 : decode cL_failedCommand 12 = .ok (.iconst 1, 1) := by decide +kernel
theorem dL_failedCommand_13 : decode cL_failedCommand 13 = .ok (.ireturn, 1) := by decide +kernel
theorem dL_failedCommand_14 : decode cL_failedCommand 14 = .ok (.iconst 0, 1) := by decide +kernel
theorem dL_failedCommand_15 : decode cL_failedCommand 15 = .ok (.ireturn, 1) := by decide +kernel
theorem dL_undo_0 : decode cL_undo 0 = .ok (.aload_n 1, 1) := by decide +kernel
theorem dL_undo_1 : decode cL_undo 1 = .ok (.iconst 0, 1) := by decide +kernel
theorem dL_undo_2 : decode cL_undo 2 = .ok (.aload_n 0, 1) := by decide +kernel
theorem dL_undo_3 : decode cL_undo 3 = .ok (.invokevirtual 155, 3) := by decide +kernel
theorem dL_undo_6 : decode cL_undo 6 = .ok (.i2l, 1) := by decide +kernel
theorem dL_undo_7 : decode cL_undo 7 = .ok (.lastore, 1) := by decide +kernel
theorem dL_undo_8 : decode cL_undo 8 = .ok (.goto 6, 3) := by decide +kernel
theorem dL_undo_11 : decode cL_undo 11 = .ok (.astore_n 2, 1) := by decide +kernel
theorem dL_undo_12 : decode cL_undo 12 = .ok (.iconst 1, 1) := by decide +kernel
theorem dL_undo_13 : decode cL_undo 13 = .ok (.ireturn, 1) := by decide +kernel
theorem dL_undo_14 : decode cL_undo 14 = .ok (.iconst 0, 1) := by decide +kernel
theorem dL_undo_15 : decode cL_undo 15 = .ok (.ireturn, 1) := by decide +kernel
theorem dL_restore_0 : decode cL_restore 0 = .ok (.aload_n 1, 1) := by decide +kernel
theorem dL_restore_1 : decode cL_restore 1 = .ok (.iconst 0, 1) := by decide +kernel
theorem dL_restore_2 : decode cL_restore 2 = .ok (.aload_n 0, 1) := by decide +kernel
theorem dL_restore_3 : decode cL_restore 3 = .ok (.invokevirtual 158, 3) := by decide +kernel
theorem dL_restore_6 : decode cL_restore 6 = .ok (.i2l, 1) := by decide +kernel
theorem dL_restore_7 : decode cL_restore 7 = .ok (.lastore, 1) := by decide +kernel
theorem dL_restore_8 : decode cL_restore 8 = .ok (.goto 6, 3) := by decide +kernel
theorem dL_restore_11 : decode cL_restore 11 = .ok (.astore_n 2, 1) := by decide +kernel
theorem dL_restore_12 : decode cL_restore 12 = .ok (.iconst 1, 1) := by decide +kernel
theorem dL_restore_13 : decode cL_restore 13 = .ok (.ireturn, 1) := by decide +kernel
theorem dL_restore_14 : decode cL_restore 14 = .ok (.iconst 0, 1) := by decide +kernel
theorem dL_restore_15 : decode cL_restore 15 = .ok (.ireturn, 1) := by decide +kernel
