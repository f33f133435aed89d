theorem dX1_init_0 : decode cX1_init 0 = .ok (.aload_n 0, 1) := by decide +kernel
theorem dX1_init_1 : decode cX1_init 1 = .ok (.invokespecial 1, 3) := by decide +kernel
theorem dX1_init_4 : decode cX1_init 4 = .ok (.aload_n 0, 1) := by decide +kernel
theorem dX1_init_5 : decode cX1_init 5 = .ok (.getstatic 7, 3) := by decide +kernel
theorem dX1_init_8 : decode cX1_init 8 = .ok (.putfield 13, 3) := by decide +kernel
theorem dX1_init_11 : decode cX1_init 11 = .ok (.aload_n 0, 1) := by decide +kernel
theorem dX1_init_12 : decode cX1_init 12 = .ok (.iconst 4, 1) := by decide +kernel
theorem dX1_init_13 : decode cX1_init 13 = .ok (.newarray .int, 2) := by decide +kernel
theorem dX1_init_15 : decode cX1_init 15 = .ok (.putfield 18, 3) := by decide +kernel
theorem dX1_init_18 : decode cX1_init 18 = .ok (.aload_n 0, 1) := by decide +kernel
theorem dX1_init_19 : decode cX1_init 19 = .ok (.iconst 0, 1) := by decide +kernel
theorem dX1_init_20 : decode cX1_init 20 = .ok (.putfield 22, 3) := by decide +kernel
theorem dX1_init_23 : decode cX1_init 23 = .ok (.return_, 1) := by decide +kernel
theorem dX1_begin_0 : decode cX1_begin 0 = .ok (.aload_n 0, 1) := by decide +kernel
theorem dX1_begin_1 : decode cX1_begin 1 = .ok (.aload_n 1, 1) := by decide +kernel
theorem dX1_begin_2 : decode cX1_begin 2 = .ok (.putfield 13, 3) := by decide +kernel
theorem dX1_begin_5 : decode cX1_begin 5 = .ok (.aload_n 0, 1) := by decide +kernel
theorem dX1_begin_6 : decode cX1_begin 6 = .ok (.iconst 0, 1) := by decide +kernel
theorem dX1_begin_7 : decode cX1_begin 7 = .ok (.putfield 22, 3) := by decide +kernel
theorem dX1_begin_10 : decode cX1_begin 10 = .ok (.return_, 1) := by decide +kernel
theorem dX1_put_0 : decode cX1_put 0 = .ok (.aload_n 0, 1) := by decide +kernel
theorem dX1_put_1 : decode cX1_put 1 = .ok (.getfield 22, 3) := by decide +kernel
theorem dX1_put_4 : decode cX1_put 4 = .ok (.ifCond .lt 35, 3) := by decide +kernel
theorem dX1_put_7 : decode cX1_put 7 = .ok (.aload_n 0, 1) := by decide +kernel
theorem dX1_put_8 : decode cX1_put 8 = .ok (.getfield 22, 3) := by decide +kernel
theorem dX1_put_11 : decode cX1_put 11 = .ok (.aload_n 0, 1) := by decide +kernel
theorem dX1_put_12 : decode cX1_put 12 = .ok (.getfield 18, 3) := by decide +kernel
theorem dX1_put_15 : decode cX1_put 15 = .ok (.arraylength, 1) := by decide +kernel
theorem dX1_put_16 : decode cX1_put 16 = .ok (.if_icmp .ge 23, 3) := by decide +kernel
theorem dX1_put_19 : decode cX1_put 19 = .ok (.aload_n 0, 1) := by decide +kernel
theorem dX1_put_20 : decode cX1_put 20 = .ok (.getfield 18, 3) := by decide +kernel
theorem dX1_put_23 : decode cX1_put 23 = .ok (.aload_n 0, 1) := by decide +kernel
theorem dX1_put_24 : decode cX1_put 24 = .ok (.getfield 22, 3) := by decide +kernel
theorem dX1_put_27 : decode cX1_put 27 = .ok (.iload_n 1, 1) := by decide +kernel
theorem dX1_put_28 : decode cX1_put 28 = .ok (.iastore, 1) := by decide +kernel
theorem dX1_put_29 : decode cX1_put 29 = .ok (.aload_n 0, 1) := by decide +kernel
theorem dX1_put_30 : decode cX1_put 30 = .ok (.dup, 1) := by decide +kernel
theorem dX1_put_31 : decode cX1_put 31 = .ok (.getfield 22, 3) := by decide +kernel
theorem dX1_put_34 : decode cX1_put 34 = .ok (.iconst 1, 1) := by decide +kernel
theorem dX1_put_35 : decode cX1_put 35 = .ok (.iadd, 1) := by decide +kernel
theorem dX1_put_36 : decode cX1_put 36 = .ok (.putfield 22, 3) := by decide +kernel
theorem dX1_put_39 : decode cX1_put 39 = .ok (.return_, 1) := by decide +kernel
theorem dX1_valueAt_0 : decode cX1_valueAt 0 = .ok (.iload_n 1, 1) := by decide +kernel
theorem dX1_valueAt_1 : decode cX1_valueAt 1 = .ok (.ifCond .lt 29, 3) := by decide +kernel
theorem dX1_valueAt_4 : decode cX1_valueAt 4 = .ok (.iload_n 1, 1) := by decide +kernel
theorem dX1_valueAt_5 : decode cX1_valueAt 5 = .ok (.aload_n 0, 1) := by decide +kernel
theorem dX1_valueAt_6 : decode cX1_valueAt 6 = .ok (.getfield 22, 3) := by decide +kernel
theorem dX1_valueAt_9 : decode cX1_valueAt 9 = .ok (.if_icmp .ge 21, 3) := by decide +kernel
theorem dX1_valueAt_12 : decode cX1_valueAt 12 = .ok (.iload_n 1, 1) := by decide +kernel
theorem dX1_valueAt_13 : decode cX1_valueAt 13 = .ok (.aload_n 0, 1) := by decide +kernel
theorem dX1_valueAt_14 : decode cX1_valueAt 14 = .ok (.getfield 18, 3) := by decide +kernel
theorem dX1_valueAt_17 : decode cX1_valueAt 17 = .ok (.arraylength, 1) := by decide +kernel
theorem dX1_valueAt_18 : decode cX1_valueAt 18 = .ok (.if_icmp .ge 12, 3) := by decide +kernel
theorem dX1_valueAt_21 : decode cX1_valueAt 21 = .ok (.aload_n 0, 1) := by decide +kernel
theorem dX1_valueAt_22 : decode cX1_valueAt 22 = .ok (.getfield 18, 3) := by decide +kernel
theorem dX1_valueAt_25 : decode cX1_valueAt 25 = .ok (.iload_n 1, 1) := by decide +kernel
theorem dX1_valueAt_26 : decode cX1_valueAt 26 = .ok (.iaload, 1) := by decide +kernel
theorem dX1_valueAt_27 : decode cX1_valueAt 27 = .ok (.goto 4, 3) := by decide +kernel
theorem dX1_valueAt_30 : decode cX1_valueAt 30 = .ok (.iconst 0, 1) := by decide +kernel
theorem dX1_valueAt_31 : decode cX1_valueAt 31 = .ok (.ireturn, 1) := by decide +kernel
theorem dX2_init_0 : decode cX2_init 0 = .ok (.aload_n 0, 1) := by decide +kernel
theorem dX2_init_1 : decode cX2_init 1 = .ok (.invokespecial 3, 3) := by decide +kernel
theorem dX2_init_4 : decode cX2_init 4 = .ok (.aload_n 0, 1) := by decide +kernel
theorem dX2_init_5 : decode cX2_init 5 = .ok (.bipush 9, 2) := by decide +kernel
theorem dX2_init_7 : decode cX2_init 7 = .ok (.anewarray 9, 3) := by decide +kernel
theorem dX2_init_10 : decode cX2_init 10 = .ok (.putfield 11, 3) := by decide +kernel
theorem dX2_init_13 : decode cX2_init 13 = .ok (.aload_n 0, 1) := by decide +kernel
theorem dX2_init_14 : decode cX2_init 14 = .ok (.iconst 0, 1) := by decide +kernel
theorem dX2_init_15 : decode cX2_init 15 = .ok (.putfield 17, 3) := by decide +kernel
theorem dX2_init_18 : decode cX2_init 18 = .ok (.aload_n 0, 1) := by decide +kernel
theorem dX2_init_19 : decode cX2_init 19 = .ok (.iconst 0, 1) := by decide +kernel
theorem dX2_init_20 : decode cX2_init 20 = .ok (.putfield 21, 3) := by decide +kernel
theorem dX2_init_23 : decode cX2_init 23 = .ok (.iconst 0, 1) := by decide +kernel
theorem dX2_init_24 : decode cX2_init 24 = .ok (.istore_n 1, 1) := by decide +kernel
theorem dX2_init_25 : decode cX2_init 25 = .ok (.iload_n 1, 1) := by decide +kernel
theorem dX2_init_26 : decode cX2_init 26 = .ok (.aload_n 0, 1) := by decide +kernel
theorem dX2_init_27 : decode cX2_init 27 = .ok (.getfield 11, 3) := by decide +kernel
theorem dX2_init_30 : decode cX2_init 30 = .ok (.arraylength, 1) := by decide +kernel
theorem dX2_init_31 : decode cX2_init 31 = .ok (.if_icmp .ge 22, 3) := by decide +kernel
theorem dX2_init_34 : decode cX2_init 34 = .ok (.aload_n 0, 1) := by decide +kernel
theorem dX2_init_35 : decode cX2_init 35 = .ok (.getfield 11, 3) := by decide +kernel
theorem dX2_init_38 : decode cX2_init 38 = .ok (.iload_n 1, 1) := by decide +kernel
theorem dX2_init_39 : decode cX2_init 39 = .ok (.new 9, 3) := by decide +kernel
theorem dX2_init_42 : decode cX2_init 42 = .ok (.dup, 1) := by decide +kernel
theorem dX2_init_43 : decode cX2_init 43 = .ok (.invokespecial 24, 3) := by decide +kernel
theorem dX2_init_46 : decode cX2_init 46 = .ok (.aastore, 1) := by decide +kernel
theorem dX2_init_47 : decode cX2_init 47 = .ok (.iinc 1 1, 3) := by decide +kernel
theorem dX2_init_50 : decode cX2_init 50 = .ok (.goto (-25), 3) := by decide +kernel
theorem dX2_init_53 : decode cX2_init 53 = .ok (.return_, 1) := by decide +kernel
theorem dX2_prepare_0 : decode cX2_prepare 0 = .ok (.aload_n 0, 1) := by decide +kernel
theorem dX2_prepare_1 : decode cX2_prepare 1 = .ok (.getfield 17, 3) := by decide +kernel
theorem dX2_prepare_4 : decode cX2_prepare 4 = .ok (.ifCond .lt 28, 3) := by decide +kernel
theorem dX2_prepare_7 : decode cX2_prepare 7 = .ok (.aload_n 0, 1) := by decide +kernel
theorem dX2_prepare_8 : decode cX2_prepare 8 = .ok (.getfield 17, 3) := by decide +kernel
theorem dX2_prepare_11 : decode cX2_prepare 11 = .ok (.aload_n 0, 1) := by decide +kernel
theorem dX2_prepare_12 : decode cX2_prepare 12 = .ok (.getfield 11, 3) := by decide +kernel
theorem dX2_prepare_15 : decode cX2_prepare 15 = .ok (.arraylength, 1) := by decide +kernel
theorem dX2_prepare_16 : decode cX2_prepare 16 = .ok (.if_icmp .ge 16, 3) := by decide +kernel
theorem dX2_prepare_19 : decode cX2_prepare 19 = .ok (.aload_n 0, 1) := by decide +kernel
theorem dX2_prepare_20 : decode cX2_prepare 20 = .ok (.getfield 11, 3) := by decide +kernel
theorem dX2_prepare_23 : decode cX2_prepare 23 = .ok (.aload_n 0, 1) := by decide +kernel
theorem dX2_prepare_24 : decode cX2_prepare 24 = .ok (.getfield 17, 3) := by decide +kernel
theorem dX2_prepare_27 : decode cX2_prepare 27 = .ok (.aaload, 1) := by decide +kernel
theorem dX2_prepare_28 : decode cX2_prepare 28 = .ok (.aload_n 1, 1) := by decide +kernel
theorem dX2_prepare_29 : decode cX2_prepare 29 = .ok (.invokevirtual 25, 3) := by decide +kernel
theorem dX2_prepare_32 : decode cX2_prepare 32 = .ok (.return_, 1) := by decide +kernel
theorem dX2_keep_0 : decode cX2_keep 0 = .ok (.aload_n 0, 1) := by decide +kernel
theorem dX2_keep_1 : decode cX2_keep 1 = .ok (.aload_n 0, 1) := by decide +kernel
theorem dX2_keep_2 : decode cX2_keep 2 = .ok (.getfield 17, 3) := by decide +kernel
theorem dX2_keep_5 : decode cX2_keep 5 = .ok (.iconst 1, 1) := by decide +kernel
theorem dX2_keep_6 : decode cX2_keep 6 = .ok (.iadd, 1) := by decide +kernel
theorem dX2_keep_7 : decode cX2_keep 7 = .ok (.aload_n 0, 1) := by decide +kernel
theorem dX2_keep_8 : decode cX2_keep 8 = .ok (.getfield 11, 3) := by decide +kernel
theorem dX2_keep_11 : decode cX2_keep 11 = .ok (.arraylength, 1) := by decide +kernel
theorem dX2_keep_12 : decode cX2_keep 12 = .ok (.if_icmp .ge 12, 3) := by decide +kernel
theorem dX2_keep_15 : decode cX2_keep 15 = .ok (.aload_n 0, 1) := by decide +kernel
theorem dX2_keep_16 : decode cX2_keep 16 = .ok (.getfield 17, 3) := by decide +kernel
theorem dX2_keep_19 : decode cX2_keep 19 = .ok (.iconst 1, 1) := by decide +kernel
theorem dX2_keep_20 : decode cX2_keep 20 = .ok (.iadd, 1) := by decide +kernel
theorem dX2_keep_21 : decode cX2_keep 21 = .ok (.goto 4, 3) := by decide +kernel
theorem dX2_keep_24 : decode cX2_keep 24 = .ok (.iconst 0, 1) := by decide +kernel
theorem dX2_keep_25 : decode cX2_keep 25 = .ok (.putfield 17, 3) := by decide +kernel
theorem dX2_keep_28 : decode cX2_keep 28 = .ok (.aload_n 0, 1) := by decide +kernel
theorem dX2_keep_29 : decode cX2_keep 29 = .ok (.aload_n 0, 1) := by decide +kernel
theorem dX2_keep_30 : decode cX2_keep 30 = .ok (.getfield 21, 3) := by decide +kernel
theorem dX2_keep_33 : decode cX2_keep 33 = .ok (.iconst 1, 1) := by decide +kernel
theorem dX2_keep_34 : decode cX2_keep 34 = .ok (.iadd, 1) := by decide +kernel
theorem dX2_keep_35 : decode cX2_keep 35 = .ok (.bipush 8, 2) := by decide +kernel
theorem dX2_keep_37 : decode cX2_keep 37 = .ok (.invokestatic 29, 3) := by decide +kernel
theorem dX2_keep_40 : decode cX2_keep 40 = .ok (.putfield 21, 3) := by decide +kernel
theorem dX2_keep_43 : decode cX2_keep 43 = .ok (.return_, 1) := by decide +kernel
theorem dX2_putBack_0 : decode cX2_putBack 0 = .ok (.aload_n 0, 1) := by decide +kernel
theorem dX2_putBack_1 : decode cX2_putBack 1 = .ok (.getfield 17, 3) := by decide +kernel
theorem dX2_putBack_4 : decode cX2_putBack 4 = .ok (.ifCond .lt 28, 3) := by decide +kernel
theorem dX2_putBack_7 : decode cX2_putBack 7 = .ok (.aload_n 0, 1) := by decide +kernel
theorem dX2_putBack_8 : decode cX2_putBack 8 = .ok (.getfield 17, 3) := by decide +kernel
theorem dX2_putBack_11 : decode cX2_putBack 11 = .ok (.aload_n 0, 1) := by decide +kernel
theorem dX2_putBack_12 : decode cX2_putBack 12 = .ok (.getfield 11, 3) := by decide +kernel
theorem dX2_putBack_15 : decode cX2_putBack 15 = .ok (.arraylength, 1) := by decide +kernel
theorem dX2_putBack_16 : decode cX2_putBack 16 = .ok (.if_icmp .ge 16, 3) := by decide +kernel
theorem dX2_putBack_19 : decode cX2_putBack 19 = .ok (.aload_n 1, 1) := by decide +kernel
theorem dX2_putBack_20 : decode cX2_putBack 20 = .ok (.aload_n 0, 1) := by decide +kernel
theorem dX2_putBack_21 : decode cX2_putBack 21 = .ok (.getfield 11, 3) := by decide +kernel
theorem dX2_putBack_24 : decode cX2_putBack 24 = .ok (.aload_n 0, 1) := by decide +kernel
theorem dX2_putBack_25 : decode cX2_putBack 25 = .ok (.getfield 17, 3) := by decide +kernel
theorem dX2_putBack_28 : decode cX2_putBack 28 = .ok (.aaload, 1) := by decide +kernel
theorem dX2_putBack_29 : decode cX2_putBack 29 = .ok (.invokevirtual 25, 3) := by decide +kernel
theorem dX2_putBack_32 : decode cX2_putBack 32 = .ok (.return_, 1) := by decide +kernel
theorem dX2_stepBack_0 : decode cX2_stepBack 0 = .ok (.aload_n 0, 1) := by decide +kernel
theorem dX2_stepBack_1 : decode cX2_stepBack 1 = .ok (.aload_n 0, 1) := by decide +kernel
theorem dX2_stepBack_2 : decode cX2_stepBack 2 = .ok (.getfield 17, 3) := by decide +kernel
theorem dX2_stepBack_5 : decode cX2_stepBack 5 = .ok (.ifCond .le 12, 3) := by decide +kernel
theorem dX2_stepBack_8 : decode cX2_stepBack 8 = .ok (.aload_n 0, 1) := by decide +kernel
theorem dX2_stepBack_9 : decode cX2_stepBack 9 = .ok (.getfield 17, 3) := by decide +kernel
theorem dX2_stepBack_12 : decode cX2_stepBack 12 = .ok (.iconst 1, 1) := by decide +kernel
theorem dX2_stepBack_13 : decode cX2_stepBack 13 = .ok (.isub, 1) := by decide +kernel
theorem dX2_stepBack_14 : decode cX2_stepBack 14 = .ok (.goto 10, 3) := by decide +kernel
theorem dX2_stepBack_17 : decode cX2_stepBack 17 = .ok (.aload_n 0, 1) := by decide +kernel
theorem dX2_stepBack_18 : decode cX2_stepBack 18 = .ok (.getfield 11, 3) := by decide +kernel
theorem dX2_stepBack_21 : decode cX2_stepBack 21 = .ok (.arraylength, 1) := by decide +kernel
theorem dX2_stepBack_22 : decode cX2_stepBack 22 = .ok (.iconst 1, 1) := by decide +kernel
theorem dX2_stepBack_23 : decode cX2_stepBack 23 = .ok (.isub, 1) := by decide +kernel
theorem dX2_stepBack_24 : decode cX2_stepBack 24 = .ok (.putfield 17, 3) := by decide +kernel
theorem dX2_stepBack_27 : decode cX2_stepBack 27 = .ok (.aload_n 0, 1) := by decide +kernel
theorem dX2_stepBack_28 : decode cX2_stepBack 28 = .ok (.dup, 1) := by decide +kernel
theorem dX2_stepBack_29 : decode cX2_stepBack 29 = .ok (.getfield 21, 3) := by decide +kernel
theorem dX2_stepBack_32 : decode cX2_stepBack 32 = .ok (.iconst 1, 1) := by decide +kernel
theorem dX2_stepBack_33 : decode cX2_stepBack 33 = .ok (.isub, 1) := by decide +kernel
theorem dX2_stepBack_34 : decode cX2_stepBack 34 = .ok (.putfield 21, 3) := by decide +kernel
theorem dX2_stepBack_37 : decode cX2_stepBack 37 = .ok (.aload_n 0, 1) := by decide +kernel
theorem dX2_stepBack_38 : decode cX2_stepBack 38 = .ok (.aload_n 1, 1) := by decide +kernel
theorem dX2_stepBack_39 : decode cX2_stepBack 39 = .ok (.invokevirtual 35, 3) := by decide +kernel
theorem dX2_stepBack_42 : decode cX2_stepBack 42 = .ok (.return_, 1) := by decide +kernel
theorem dX2_forget_0 : decode cX2_forget 0 = .ok (.aload_n 0, 1) := by decide +kernel
theorem dX2_forget_1 : decode cX2_forget 1 = .ok (.iconst 0, 1) := by decide +kernel
theorem dX2_forget_2 : decode cX2_forget 2 = .ok (.putfield 21, 3) := by decide +kernel
theorem dX2_forget_5 : decode cX2_forget 5 = .ok (.return_, 1) := by decide +kernel
theorem dX3_init_0 : decode cX3_init 0 = .ok (.aload_n 0, 1) := by decide +kernel
theorem dX3_init_1 : decode cX3_init 1 = .ok (.invokespecial 3, 3) := by decide +kernel
theorem dX3_init_4 : decode cX3_init 4 = .ok (.aload_n 0, 1) := by decide +kernel
theorem dX3_init_5 : decode cX3_init 5 = .ok (.new 9, 3) := by decide +kernel
theorem dX3_init_8 : decode cX3_init 8 = .ok (.dup, 1) := by decide +kernel
theorem dX3_init_9 : decode cX3_init 9 = .ok (.invokespecial 11, 3) := by decide +kernel
theorem dX3_init_12 : decode cX3_init 12 = .ok (.putfield 12, 3) := by decide +kernel
theorem dX3_init_15 : decode cX3_init 15 = .ok (.aload_n 0, 1) := by decide +kernel
theorem dX3_init_16 : decode cX3_init 16 = .ok (.bipush 12, 2) := by decide +kernel
theorem dX3_init_18 : decode cX3_init 18 = .ok (.anewarray 18, 3) := by decide +kernel
theorem dX3_init_21 : decode cX3_init 21 = .ok (.putfield 20, 3) := by decide +kernel
theorem dX3_init_24 : decode cX3_init 24 = .ok (.aload_n 0, 1) := by decide +kernel
theorem dX3_init_25 : decode cX3_init 25 = .ok (.iconst 0, 1) := by decide +kernel
theorem dX3_init_26 : decode cX3_init 26 = .ok (.putfield 24, 3) := by decide +kernel
theorem dX3_init_29 : decode cX3_init 29 = .ok (.aload_n 0, 1) := by decide +kernel
theorem dX3_init_30 : decode cX3_init 30 = .ok (.iconst 0, 1) := by decide +kernel
theorem dX3_init_31 : decode cX3_init 31 = .ok (.putfield 28, 3) := by decide +kernel
theorem dX3_init_34 : decode cX3_init 34 = .ok (.iconst 0, 1) := by decide +kernel
theorem dX3_init_35 : decode cX3_init 35 = .ok (.istore_n 1, 1) := by decide +kernel
theorem dX3_init_36 : decode cX3_init 36 = .ok (.iload_n 1, 1) := by decide +kernel
theorem dX3_init_37 : decode cX3_init 37 = .ok (.aload_n 0, 1) := by decide +kernel
theorem dX3_init_38 : decode cX3_init 38 = .ok (.getfield 20, 3) := by decide +kernel
theorem dX3_init_41 : decode cX3_init 41 = .ok (.arraylength, 1) := by decide +kernel
theorem dX3_init_42 : decode cX3_init 42 = .ok (.if_icmp .ge 22, 3) := by decide +kernel
theorem dX3_init_45 : decode cX3_init 45 = .ok (.aload_n 0, 1) := by decide +kernel
theorem dX3_init_46 : decode cX3_init 46 = .ok (.getfield 20, 3) := by decide +kernel
theorem dX3_init_49 : decode cX3_init 49 = .ok (.iload_n 1, 1) := by decide +kernel
theorem dX3_init_50 : decode cX3_init 50 = .ok (.new 18, 3) := by decide +kernel
theorem dX3_init_53 : decode cX3_init 53 = .ok (.dup, 1) := by decide +kernel
theorem dX3_init_54 : decode cX3_init 54 = .ok (.invokespecial 31, 3) := by decide +kernel
theorem dX3_init_57 : decode cX3_init 57 = .ok (.aastore, 1) := by decide +kernel
theorem dX3_init_58 : decode cX3_init 58 = .ok (.iinc 1 1, 3) := by decide +kernel
theorem dX3_init_61 : decode cX3_init 61 = .ok (.goto (-25), 3) := by decide +kernel
theorem dX3_init_64 : decode cX3_init 64 = .ok (.return_, 1) := by decide +kernel
theorem dX3_read_0 : decode cX3_read 0 = .ok (.aload_n 0, 1) := by decide +kernel
theorem dX3_read_1 : decode cX3_read 1 = .ok (.iconst 0, 1) := by decide +kernel
theorem dX3_read_2 : decode cX3_read 2 = .ok (.putfield 28, 3) := by decide +kernel
theorem dX3_read_5 : decode cX3_read 5 = .ok (.aload_n 0, 1) := by decide +kernel
theorem dX3_read_6 : decode cX3_read 6 = .ok (.iconst 0, 1) := by decide +kernel
theorem dX3_read_7 : decode cX3_read 7 = .ok (.putfield 24, 3) := by decide +kernel
theorem dX3_read_10 : decode cX3_read 10 = .ok (.iconst 0, 1) := by decide +kernel
theorem dX3_read_11 : decode cX3_read 11 = .ok (.istore_n 1, 1) := by decide +kernel
theorem dX3_read_12 : decode cX3_read 12 = .ok (.iload_n 1, 1) := by decide +kernel
theorem dX3_read_13 : decode cX3_read 13 = .ok (.bipush 60, 2) := by decide +kernel
theorem dX3_read_15 : decode cX3_read 15 = .ok (.if_icmp .gt 45, 3) := by decide +kernel
theorem dX3_read_18 : decode cX3_read 18 = .ok (.aload_n 0, 1) := by decide +kernel
theorem dX3_read_19 : decode cX3_read 19 = .ok (.invokevirtual 32, 3) := by decide +kernel
theorem dX3_read_22 : decode cX3_read 22 = .ok (.ifCond .ne 5, 3) := by decide +kernel
theorem dX3_read_25 : decode cX3_read 25 = .ok (.iconst 0, 1) := by decide +kernel
theorem dX3_read_26 : decode cX3_read 26 = .ok (.ireturn, 1) := by decide +kernel
theorem dX3_read_27 : decode cX3_read 27 = .ok (.aload_n 0, 1) := by decide +kernel
theorem dX3_read_28 : decode cX3_read 28 = .ok (.getfield 28, 3) := by decide +kernel
theorem dX3_read_31 : decode cX3_read 31 = .ok (.aload_n 0, 1) := by decide +kernel
theorem dX3_read_32 : decode cX3_read 32 = .ok (.getfield 12, 3) := by decide +kernel
theorem dX3_read_35 : decode cX3_read 35 = .ok (.getfield 36, 3) := by decide +kernel
theorem dX3_read_38 : decode cX3_read 38 = .ok (.if_icmp .ne 5, 3) := by decide +kernel
theorem dX3_read_41 : decode cX3_read 41 = .ok (.iconst 1, 1) := by decide +kernel
theorem dX3_read_42 : decode cX3_read 42 = .ok (.ireturn, 1) := by decide +kernel
theorem dX3_read_43 : decode cX3_read 43 = .ok (.aload_n 0, 1) := by decide +kernel
theorem dX3_read_44 : decode cX3_read 44 = .ok (.bipush 59, 2) := by decide +kernel
theorem dX3_read_46 : decode cX3_read 46 = .ok (.invokevirtual 39, 3) := by decide +kernel
theorem dX3_read_49 : decode cX3_read 49 = .ok (.ifCond .ne 5, 3) := by decide +kernel
theorem dX3_read_52 : decode cX3_read 52 = .ok (.iconst 0, 1) := by decide +kernel
theorem dX3_read_53 : decode cX3_read 53 = .ok (.ireturn, 1) := by decide +kernel
theorem dX3_read_54 : decode cX3_read 54 = .ok (.iinc 1 1, 3) := by decide +kernel
theorem dX3_read_57 : decode cX3_read 57 = .ok (.goto (-45), 3) := by decide +kernel
theorem dX3_read_60 : decode cX3_read 60 = .ok (.iconst 0, 1) := by decide +kernel
theorem dX3_read_61 : decode cX3_read 61 = .ok (.ireturn, 1) := by decide +kernel
theorem dX3_readCommand_0 : decode cX3_readCommand 0 = .ok (.aload_n 0, 1) := by decide +kernel
theorem dX3_readCommand_1 : decode cX3_readCommand 1 = .ok (.invokevirtual 43, 3) := by decide +kernel
theorem dX3_readCommand_4 : decode cX3_readCommand 4 = .ok (.istore_n 1, 1) := by decide +kernel
theorem dX3_readCommand_5 : decode cX3_readCommand 5 = .ok (.iload_n 1, 1) := by decide +kernel
theorem dX3_readCommand_6 : decode cX3_readCommand 6 = .ok (.ifCond .lt 30, 3) := by decide +kernel
theorem dX3_readCommand_9 : decode cX3_readCommand 9 = .ok (.iload_n 1, 1) := by decide +kernel
theorem dX3_readCommand_10 : decode cX3_readCommand 10 = .ok (.getstatic 47, 3) := by decide +kernel
theorem dX3_readCommand_13 : decode cX3_readCommand 13 = .ok (.arraylength, 1) := by decide +kernel
theorem dX3_readCommand_14 : decode cX3_readCommand 14 = .ok (.if_icmp .ge 22, 3) := by decide +kernel
theorem dX3_readCommand_17 : decode cX3_readCommand 17 = .ok (.aload_n 0, 1) := by decide +kernel
theorem dX3_readCommand_18 : decode cX3_readCommand 18 = .ok (.getfield 24, 3) := by decide +kernel
theorem dX3_readCommand_21 : decode cX3_readCommand 21 = .ok (.ifCond .lt 15, 3) := by decide +kernel
theorem dX3_readCommand_24 : decode cX3_readCommand 24 = .ok (.aload_n 0, 1) := by decide +kernel
theorem dX3_readCommand_25 : decode cX3_readCommand 25 = .ok (.getfield 24, 3) := by decide +kernel
theorem dX3_readCommand_28 : decode cX3_readCommand 28 = .ok (.aload_n 0, 1) := by decide +kernel
theorem dX3_readCommand_29 : decode cX3_readCommand 29 = .ok (.getfield 20, 3) := by decide +kernel
theorem dX3_readCommand_32 : decode cX3_readCommand 32 = .ok (.arraylength, 1) := by decide +kernel
theorem dX3_readCommand_33 : decode cX3_readCommand 33 = .ok (.if_icmp .lt 5, 3) := by decide +kernel
theorem dX3_readCommand_36 : decode cX3_readCommand 36 = .ok (.iconst 0, 1) := by decide +kernel
theorem dX3_readCommand_37 : decode cX3_readCommand 37 = .ok (.ireturn, 1) := by decide +kernel
theorem dX3_readCommand_38 : decode cX3_readCommand 38 = .ok (.getstatic 47, 3) := by decide +kernel
theorem dX3_readCommand_41 : decode cX3_readCommand 41 = .ok (.iload_n 1, 1) := by decide +kernel
theorem dX3_readCommand_42 : decode cX3_readCommand 42 = .ok (.aaload, 1) := by decide +kernel
theorem dX3_readCommand_43 : decode cX3_readCommand 43 = .ok (.getfield 51, 3) := by decide +kernel
theorem dX3_readCommand_46 : decode cX3_readCommand 46 = .ok (.astore_n 2, 1) := by decide +kernel
theorem dX3_readCommand_47 : decode cX3_readCommand 47 = .ok (.aload_n 0, 1) := by decide +kernel
theorem dX3_readCommand_48 : decode cX3_readCommand 48 = .ok (.getfield 20, 3) := by decide +kernel
theorem dX3_readCommand_51 : decode cX3_readCommand 51 = .ok (.aload_n 0, 1) := by decide +kernel
theorem dX3_readCommand_52 : decode cX3_readCommand 52 = .ok (.getfield 24, 3) := by decide +kernel
theorem dX3_readCommand_55 : decode cX3_readCommand 55 = .ok (.aaload, 1) := by decide +kernel
theorem dX3_readCommand_56 : decode cX3_readCommand 56 = .ok (.getstatic 47, 3) := by decide +kernel
theorem dX3_readCommand_59 : decode cX3_readCommand 59 = .ok (.iload_n 1, 1) := by decide +kernel
theorem dX3_readCommand_60 : decode cX3_readCommand 60 = .ok (.aaload, 1) := by decide +kernel
theorem dX3_readCommand_61 : decode cX3_readCommand 61 = .ok (.invokevirtual 57, 3) := by decide +kernel
theorem dX3_readCommand_64 : decode cX3_readCommand 64 = .ok (.iconst 0, 1) := by decide +kernel
theorem dX3_readCommand_65 : decode cX3_readCommand 65 = .ok (.istore_n 3, 1) := by decide +kernel
theorem dX3_readCommand_66 : decode cX3_readCommand 66 = .ok (.iload_n 3, 1) := by decide +kernel
theorem dX3_readCommand_67 : decode cX3_readCommand 67 = .ok (.aload_n 2, 1) := by decide +kernel
theorem dX3_readCommand_68 : decode cX3_readCommand 68 = .ok (.invokevirtual 61, 3) := by decide +kernel
theorem dX3_readCommand_71 : decode cX3_readCommand 71 = .ok (.if_icmp .ge 32, 3) := by decide +kernel
theorem dX3_readCommand_74 : decode cX3_readCommand 74 = .ok (.aload_n 0, 1) := by decide +kernel
theorem dX3_readCommand_75 : decode cX3_readCommand 75 = .ok (.aload_n 0, 1) := by decide +kernel
theorem dX3_readCommand_76 : decode cX3_readCommand 76 = .ok (.getfield 20, 3) := by decide +kernel
theorem dX3_readCommand_79 : decode cX3_readCommand 79 = .ok (.aload_n 0, 1) := by decide +kernel
theorem dX3_readCommand_80 : decode cX3_readCommand 80 = .ok (.getfield 24, 3) := by decide +kernel
theorem dX3_readCommand_83 : decode cX3_readCommand 83 = .ok (.aaload, 1) := by decide +kernel
theorem dX3_readCommand_84 : decode cX3_readCommand 84 = .ok (.aload_n 2, 1) := by decide +kernel
theorem dX3_readCommand_85 : decode cX3_readCommand 85 = .ok (.iload_n 3, 1) := by decide +kernel
theorem dX3_readCommand_86 : decode cX3_readCommand 86 = .ok (.invokevirtual 65, 3) := by decide +kernel
theorem dX3_readCommand_89 : decode cX3_readCommand 89 = .ok (.invokevirtual 69, 3) := by decide +kernel
theorem dX3_readCommand_92 : decode cX3_readCommand 92 = .ok (.ifCond .ne 5, 3) := by decide +kernel
theorem dX3_readCommand_95 : decode cX3_readCommand 95 = .ok (.iconst 0, 1) := by decide +kernel
theorem dX3_readCommand_96 : decode cX3_readCommand 96 = .ok (.ireturn, 1) := by decide +kernel
theorem dX3_readCommand_97 : decode cX3_readCommand 97 = .ok (.iinc 3 1, 3) := by decide +kernel
theorem dX3_readCommand_100 : decode cX3_readCommand 100 = .ok (.goto (-34), 3) := by decide +kernel
theorem dX3_readCommand_103 : decode cX3_readCommand 103 = .ok (.aload_n 0, 1) := by decide +kernel
theorem dX3_readCommand_104 : decode cX3_readCommand 104 = .ok (.dup, 1) := by decide +kernel
theorem dX3_readCommand_105 : decode cX3_readCommand 105 = .ok (.getfield 24, 3) := by decide +kernel
theorem dX3_readCommand_108 : decode cX3_readCommand 108 = .ok (.iconst 1, 1) := by decide +kernel
theorem dX3_readCommand_109 : decode cX3_readCommand 109 = .ok (.iadd, 1) := by decide +kernel
theorem dX3_readCommand_110 : decode cX3_readCommand 110 = .ok (.putfield 24, 3) := by decide +kernel
theorem dX3_readCommand_113 : decode cX3_readCommand 113 = .ok (.iconst 1, 1) := by decide +kernel
theorem dX3_readCommand_114 : decode cX3_readCommand 114 = .ok (.ireturn, 1) := by decide +kernel
theorem dX3_readWord_0 : decode cX3_readWord 0 = .ok (.iconst 0, 1) := by decide +kernel
theorem dX3_readWord_1 : decode cX3_readWord 1 = .ok (.istore_n 1, 1) := by decide +kernel
theorem dX3_readWord_2 : decode cX3_readWord 2 = .ok (.iconst 0, 1) := by decide +kernel
theorem dX3_readWord_3 : decode cX3_readWord 3 = .ok (.istore_n 2, 1) := by decide +kernel
theorem dX3_readWord_4 : decode cX3_readWord 4 = .ok (.iload_n 2, 1) := by decide +kernel
theorem dX3_readWord_5 : decode cX3_readWord 5 = .ok (.getstatic 47, 3) := by decide +kernel
theorem dX3_readWord_8 : decode cX3_readWord 8 = .ok (.arraylength, 1) := by decide +kernel
theorem dX3_readWord_9 : decode cX3_readWord 9 = .ok (.if_icmp .ge 55, 3) := by decide +kernel
theorem dX3_readWord_12 : decode cX3_readWord 12 = .ok (.aload_n 0, 1) := by decide +kernel
theorem dX3_readWord_13 : decode cX3_readWord 13 = .ok (.getstatic 47, 3) := by decide +kernel
theorem dX3_readWord_16 : decode cX3_readWord 16 = .ok (.iload_n 2, 1) := by decide +kernel
theorem dX3_readWord_17 : decode cX3_readWord 17 = .ok (.aaload, 1) := by decide +kernel
theorem dX3_readWord_18 : decode cX3_readWord 18 = .ok (.getfield 73, 3) := by decide +kernel
theorem dX3_readWord_21 : decode cX3_readWord 21 = .ok (.invokevirtual 76, 3) := by decide +kernel
theorem dX3_readWord_24 : decode cX3_readWord 24 = .ok (.istore_n 3, 1) := by decide +kernel
theorem dX3_readWord_25 : decode cX3_readWord 25 = .ok (.iload_n 3, 1) := by decide +kernel
theorem dX3_readWord_26 : decode cX3_readWord 26 = .ok (.getstatic 47, 3) := by decide +kernel
theorem dX3_readWord_29 : decode cX3_readWord 29 = .ok (.iload_n 2, 1) := by decide +kernel
theorem dX3_readWord_30 : decode cX3_readWord 30 = .ok (.aaload, 1) := by decide +kernel
theorem dX3_readWord_31 : decode cX3_readWord 31 = .ok (.getfield 73, 3) := by decide +kernel
theorem dX3_readWord_34 : decode cX3_readWord 34 = .ok (.invokevirtual 61, 3) := by decide +kernel
theorem dX3_readWord_37 : decode cX3_readWord 37 = .ok (.if_icmp .ne 15, 3) := by decide +kernel
theorem dX3_readWord_40 : decode cX3_readWord 40 = .ok (.aload_n 0, 1) := by decide +kernel
theorem dX3_readWord_41 : decode cX3_readWord 41 = .ok (.dup, 1) := by decide +kernel
theorem dX3_readWord_42 : decode cX3_readWord 42 = .ok (.getfield 28, 3) := by decide +kernel
theorem dX3_readWord_45 : decode cX3_readWord 45 = .ok (.iload_n 3, 1) := by decide +kernel
theorem dX3_readWord_46 : decode cX3_readWord 46 = .ok (.iadd, 1) := by decide +kernel
theorem dX3_readWord_47 : decode cX3_readWord 47 = .ok (.putfield 28, 3) := by decide +kernel
theorem dX3_readWord_50 : decode cX3_readWord 50 = .ok (.iload_n 2, 1) := by decide +kernel
theorem dX3_readWord_51 : decode cX3_readWord 51 = .ok (.ireturn, 1) := by decide +kernel
theorem dX3_readWord_52 : decode cX3_readWord 52 = .ok (.iload_n 1, 1) := by decide +kernel
theorem dX3_readWord_53 : decode cX3_readWord 53 = .ok (.iload_n 3, 1) := by decide +kernel
theorem dX3_readWord_54 : decode cX3_readWord 54 = .ok (.invokestatic 80, 3) := by decide +kernel
theorem dX3_readWord_57 : decode cX3_readWord 57 = .ok (.istore_n 1, 1) := by decide +kernel
theorem dX3_readWord_58 : decode cX3_readWord 58 = .ok (.iinc 2 1, 3) := by decide +kernel
theorem dX3_readWord_61 : decode cX3_readWord 61 = .ok (.goto (-57), 3) := by decide +kernel
theorem dX3_readWord_64 : decode cX3_readWord 64 = .ok (.aload_n 0, 1) := by decide +kernel
theorem dX3_readWord_65 : decode cX3_readWord 65 = .ok (.dup, 1) := by decide +kernel
theorem dX3_readWord_66 : decode cX3_readWord 66 = .ok (.getfield 28, 3) := by decide +kernel
theorem dX3_readWord_69 : decode cX3_readWord 69 = .ok (.iload_n 1, 1) := by decide +kernel
theorem dX3_readWord_70 : decode cX3_readWord 70 = .ok (.iadd, 1) := by decide +kernel
theorem dX3_readWord_71 : decode cX3_readWord 71 = .ok (.putfield 28, 3) := by decide +kernel
theorem dX3_readWord_74 : decode cX3_readWord 74 = .ok (.iconst (-1), 1) := by decide +kernel
theorem dX3_readWord_75 : decode cX3_readWord 75 = .ok (.ireturn, 1) := by decide +kernel
theorem dX3_commonLength_0 : decode cX3_commonLength 0 = .ok (.iconst 0, 1) := by decide +kernel
theorem dX3_commonLength_1 : decode cX3_commonLength 1 = .ok (.istore_n 2, 1) := by decide +kernel
theorem dX3_commonLength_2 : decode cX3_commonLength 2 = .ok (.iload_n 2, 1) := by decide +kernel
theorem dX3_commonLength_3 : decode cX3_commonLength 3 = .ok (.aload_n 1, 1) := by decide +kernel
theorem dX3_commonLength_4 : decode cX3_commonLength 4 = .ok (.invokevirtual 61, 3) := by decide +kernel
theorem dX3_commonLength_7 : decode cX3_commonLength 7 = .ok (.if_icmp .ge 32, 3) := by decide +kernel
theorem dX3_commonLength_10 : decode cX3_commonLength 10 = .ok (.aload_n 0, 1) := by decide +kernel
theorem dX3_commonLength_11 : decode cX3_commonLength 11 = .ok (.getfield 12, 3) := by decide +kernel
theorem dX3_commonLength_14 : decode cX3_commonLength 14 = .ok (.aload_n 0, 1) := by decide +kernel
theorem dX3_commonLength_15 : decode cX3_commonLength 15 = .ok (.getfield 28, 3) := by decide +kernel
theorem dX3_commonLength_18 : decode cX3_commonLength 18 = .ok (.iload_n 2, 1) := by decide +kernel
theorem dX3_commonLength_19 : decode cX3_commonLength 19 = .ok (.iadd, 1) := by decide +kernel
theorem dX3_commonLength_20 : decode cX3_commonLength 20 = .ok (.invokevirtual 86, 3) := by decide +kernel
theorem dX3_commonLength_23 : decode cX3_commonLength 23 = .ok (.aload_n 1, 1) := by decide +kernel
theorem dX3_commonLength_24 : decode cX3_commonLength 24 = .ok (.iload_n 2, 1) := by decide +kernel
theorem dX3_commonLength_25 : decode cX3_commonLength 25 = .ok (.invokevirtual 65, 3) := by decide +kernel
theorem dX3_commonLength_28 : decode cX3_commonLength 28 = .ok (.if_icmp .eq 5, 3) := by decide +kernel
theorem dX3_commonLength_31 : decode cX3_commonLength 31 = .ok (.iload_n 2, 1) := by decide +kernel
theorem dX3_commonLength_32 : decode cX3_commonLength 32 = .ok (.ireturn, 1) := by decide +kernel
theorem dX3_commonLength_33 : decode cX3_commonLength 33 = .ok (.iinc 2 1, 3) := by decide +kernel
theorem dX3_commonLength_36 : decode cX3_commonLength 36 = .ok (.goto (-34), 3) := by decide +kernel
theorem dX3_commonLength_39 : decode cX3_commonLength 39 = .ok (.aload_n 1, 1) := by decide +kernel
theorem dX3_commonLength_40 : decode cX3_commonLength 40 = .ok (.invokevirtual 61, 3) := by decide +kernel
theorem dX3_commonLength_43 : decode cX3_commonLength 43 = .ok (.ireturn, 1) := by decide +kernel
theorem dX3_readPart_0 : decode cX3_readPart 0 = .ok (.iload_n 2, 1) := by decide +kernel
theorem dX3_readPart_1 : decode cX3_readPart 1 = .ok (.lookupswitch 97 #[(43, 69), (98, 75), (100, 57), (107, 51), (110, 63)], 51) := by decide +kernel
theorem dX3_readPart_52 : decode cX3_readPart 52 = .ok (.aload_n 0, 1) := by decide +kernel
theorem dX3_readPart_53 : decode cX3_readPart 53 = .ok (.aload_n 1, 1) := by decide +kernel
theorem dX3_readPart_54 : decode cX3_readPart 54 = .ok (.invokevirtual 89, 3) := by decide +kernel
theorem dX3_readPart_57 : decode cX3_readPart 57 = .ok (.ireturn, 1) := by decide +kernel
theorem dX3_readPart_58 : decode cX3_readPart 58 = .ok (.aload_n 0, 1) := by decide +kernel
theorem dX3_readPart_59 : decode cX3_readPart 59 = .ok (.aload_n 1, 1) := by decide +kernel
theorem dX3_readPart_60 : decode cX3_readPart 60 = .ok (.invokevirtual 93, 3) := by decide +kernel
theorem dX3_readPart_63 : decode cX3_readPart 63 = .ok (.ireturn, 1) := by decide +kernel
theorem dX3_readPart_64 : decode cX3_readPart 64 = .ok (.aload_n 0, 1) := by decide +kernel
theorem dX3_readPart_65 : decode cX3_readPart 65 = .ok (.aload_n 1, 1) := by decide +kernel
theorem dX3_readPart_66 : decode cX3_readPart 66 = .ok (.invokevirtual 96, 3) := by decide +kernel
theorem dX3_readPart_69 : decode cX3_readPart 69 = .ok (.ireturn, 1) := by decide +kernel
theorem dX3_readPart_70 : decode cX3_readPart 70 = .ok (.aload_n 0, 1) := by decide +kernel
theorem dX3_readPart_71 : decode cX3_readPart 71 = .ok (.aload_n 1, 1) := by decide +kernel
theorem dX3_readPart_72 : decode cX3_readPart 72 = .ok (.invokevirtual 99, 3) := by decide +kernel
theorem dX3_readPart_75 : decode cX3_readPart 75 = .ok (.ireturn, 1) := by decide +kernel
theorem dX3_readPart_76 : decode cX3_readPart 76 = .ok (.aload_n 0, 1) := by decide +kernel
theorem dX3_readPart_77 : decode cX3_readPart 77 = .ok (.bipush 32, 2) := by decide +kernel
theorem dX3_readPart_79 : decode cX3_readPart 79 = .ok (.invokevirtual 39, 3) := by decide +kernel
theorem dX3_readPart_82 : decode cX3_readPart 82 = .ok (.ifCond .eq 9, 3) := by decide +kernel
theorem dX3_readPart_85 : decode cX3_readPart 85 = .ok (.aload_n 0, 1) := by decide +kernel
theorem dX3_readPart_86 : decode cX3_readPart 86 = .ok (.aload_n 1, 1) := by decide +kernel
theorem dX3_readPart_87 : decode cX3_readPart 87 = .ok (.invokevirtual 96, 3) := by decide +kernel
theorem dX3_readPart_90 : decode cX3_readPart 90 = .ok (.ireturn, 1) := by decide +kernel
theorem dX3_readPart_91 : decode cX3_readPart 91 = .ok (.aload_n 1, 1) := by decide +kernel
theorem dX3_readPart_92 : decode cX3_readPart 92 = .ok (.iconst 1, 1) := by decide +kernel
theorem dX3_readPart_93 : decode cX3_readPart 93 = .ok (.invokevirtual 102, 3) := by decide +kernel
theorem dX3_readPart_96 : decode cX3_readPart 96 = .ok (.iconst 1, 1) := by decide +kernel
theorem dX3_readPart_97 : decode cX3_readPart 97 = .ok (.ireturn, 1) := by decide +kernel
theorem dX3_readPart_98 : decode cX3_readPart 98 = .ok (.aload_n 0, 1) := by decide +kernel
theorem dX3_readPart_99 : decode cX3_readPart 99 = .ok (.iload_n 2, 1) := by decide +kernel
theorem dX3_readPart_100 : decode cX3_readPart 100 = .ok (.invokevirtual 39, 3) := by decide +kernel
theorem dX3_readPart_103 : decode cX3_readPart 103 = .ok (.ireturn, 1) := by decide +kernel
theorem dX3_readKind_0 : decode cX3_readKind 0 = .ok (.aload_n 0, 1) := by decide +kernel
theorem dX3_readKind_1 : decode cX3_readKind 1 = .ok (.getfield 12, 3) := by decide +kernel
theorem dX3_readKind_4 : decode cX3_readKind 4 = .ok (.aload_n 0, 1) := by decide +kernel
theorem dX3_readKind_5 : decode cX3_readKind 5 = .ok (.getfield 28, 3) := by decide +kernel
theorem dX3_readKind_8 : decode cX3_readKind 8 = .ok (.invokevirtual 86, 3) := by decide +kernel
theorem dX3_readKind_11 : decode cX3_readKind 11 = .ok (.istore_n 2, 1) := by decide +kernel
theorem dX3_readKind_12 : decode cX3_readKind 12 = .ok (.iload_n 2, 1) := by decide +kernel
theorem dX3_readKind_13 : decode cX3_readKind 13 = .ok (.invokestatic 106, 3) := by decide +kernel
theorem dX3_readKind_16 : decode cX3_readKind 16 = .ok (.ifCond .ge 5, 3) := by decide +kernel
theorem dX3_readKind_19 : decode cX3_readKind 19 = .ok (.iconst 0, 1) := by decide +kernel
theorem dX3_readKind_20 : decode cX3_readKind 20 = .ok (.ireturn, 1) := by decide +kernel
theorem dX3_readKind_21 : decode cX3_readKind 21 = .ok (.aload_n 1, 1) := by decide +kernel
theorem dX3_readKind_22 : decode cX3_readKind 22 = .ok (.iload_n 2, 1) := by decide +kernel
theorem dX3_readKind_23 : decode cX3_readKind 23 = .ok (.invokevirtual 102, 3) := by decide +kernel
theorem dX3_readKind_26 : decode cX3_readKind 26 = .ok (.aload_n 0, 1) := by decide +kernel
theorem dX3_readKind_27 : decode cX3_readKind 27 = .ok (.dup, 1) := by decide +kernel
theorem dX3_readKind_28 : decode cX3_readKind 28 = .ok (.getfield 28, 3) := by decide +kernel
theorem dX3_readKind_31 : decode cX3_readKind 31 = .ok (.iconst 1, 1) := by decide +kernel
theorem dX3_readKind_32 : decode cX3_readKind 32 = .ok (.iadd, 1) := by decide +kernel
theorem dX3_readKind_33 : decode cX3_readKind 33 = .ok (.putfield 28, 3) := by decide +kernel
theorem dX3_readKind_36 : decode cX3_readKind 36 = .ok (.iconst 1, 1) := by decide +kernel
theorem dX3_readKind_37 : decode cX3_readKind 37 = .ok (.ireturn, 1) := by decide +kernel
theorem dX3_readDigit_0 : decode cX3_readDigit 0 = .ok (.aload_n 0, 1) := by decide +kernel
theorem dX3_readDigit_1 : decode cX3_readDigit 1 = .ok (.invokevirtual 110, 3) := by decide +kernel
theorem dX3_readDigit_4 : decode cX3_readDigit 4 = .ok (.istore_n 2, 1) := by decide +kernel
theorem dX3_readDigit_5 : decode cX3_readDigit 5 = .ok (.iload_n 2, 1) := by decide +kernel
theorem dX3_readDigit_6 : decode cX3_readDigit 6 = .ok (.iconst (-1), 1) := by decide +kernel
theorem dX3_readDigit_7 : decode cX3_readDigit 7 = .ok (.if_icmp .ne 5, 3) := by decide +kernel
theorem dX3_readDigit_10 : decode cX3_readDigit 10 = .ok (.iconst 0, 1) := by decide +kernel
theorem dX3_readDigit_11 : decode cX3_readDigit 11 = .ok (.ireturn, 1) := by decide +kernel
theorem dX3_readDigit_12 : decode cX3_readDigit 12 = .ok (.aload_n 1, 1) := by decide +kernel
theorem dX3_readDigit_13 : decode cX3_readDigit 13 = .ok (.iload_n 2, 1) := by decide +kernel
theorem dX3_readDigit_14 : decode cX3_readDigit 14 = .ok (.invokevirtual 102, 3) := by decide +kernel
theorem dX3_readDigit_17 : decode cX3_readDigit 17 = .ok (.iconst 1, 1) := by decide +kernel
theorem dX3_readDigit_18 : decode cX3_readDigit 18 = .ok (.ireturn, 1) := by decide +kernel
theorem dX3_readNumber_0 : decode cX3_readNumber 0 = .ok (.aload_n 0, 1) := by decide +kernel
theorem dX3_readNumber_1 : decode cX3_readNumber 1 = .ok (.invokevirtual 110, 3) := by decide +kernel
theorem dX3_readNumber_4 : decode cX3_readNumber 4 = .ok (.istore_n 2, 1) := by decide +kernel
theorem dX3_readNumber_5 : decode cX3_readNumber 5 = .ok (.iload_n 2, 1) := by decide +kernel
theorem dX3_readNumber_6 : decode cX3_readNumber 6 = .ok (.iconst (-1), 1) := by decide +kernel
theorem dX3_readNumber_7 : decode cX3_readNumber 7 = .ok (.if_icmp .ne 5, 3) := by decide +kernel
theorem dX3_readNumber_10 : decode cX3_readNumber 10 = .ok (.iconst 0, 1) := by decide +kernel
theorem dX3_readNumber_11 : decode cX3_readNumber 11 = .ok (.ireturn, 1) := by decide +kernel
theorem dX3_readNumber_12 : decode cX3_readNumber 12 = .ok (.aload_n 0, 1) := by decide +kernel
theorem dX3_readNumber_13 : decode cX3_readNumber 13 = .ok (.invokevirtual 110, 3) := by decide +kernel
theorem dX3_readNumber_16 : decode cX3_readNumber 16 = .ok (.istore_n 3, 1) := by decide +kernel
theorem dX3_readNumber_17 : decode cX3_readNumber 17 = .ok (.aload_n 1, 1) := by decide +kernel
theorem dX3_readNumber_18 : decode cX3_readNumber 18 = .ok (.iload_n 3, 1) := by decide +kernel
theorem dX3_readNumber_19 : decode cX3_readNumber 19 = .ok (.iconst (-1), 1) := by decide +kernel
theorem dX3_readNumber_20 : decode cX3_readNumber 20 = .ok (.if_icmp .ne 7, 3) := by decide +kernel
theorem dX3_readNumber_23 : decode cX3_readNumber 23 = .ok (.iload_n 2, 1) := by decide +kernel
theorem dX3_readNumber_24 : decode cX3_readNumber 24 = .ok (.goto 9, 3) := by decide +kernel
theorem dX3_readNumber_27 : decode cX3_readNumber 27 = .ok (.bipush 10, 2) := by decide +kernel
theorem dX3_readNumber_29 : decode cX3_readNumber 29 = .ok (.iload_n 2, 1) := by decide +kernel
theorem dX3_readNumber_30 : decode cX3_readNumber 30 = .ok (.imul, 1) := by decide +kernel
theorem dX3_readNumber_31 : decode cX3_readNumber 31 = .ok (.iload_n 3, 1) := by decide +kernel
theorem dX3_readNumber_32 : decode cX3_readNumber 32 = .ok (.iadd, 1) := by decide +kernel
theorem dX3_readNumber_33 : decode cX3_readNumber 33 = .ok (.invokevirtual 102, 3) := by decide +kernel
theorem dX3_readNumber_36 : decode cX3_readNumber 36 = .ok (.iconst 1, 1) := by decide +kernel
theorem dX3_readNumber_37 : decode cX3_readNumber 37 = .ok (.ireturn, 1) := by decide +kernel
theorem dX3_readSign_0 : decode cX3_readSign 0 = .ok (.aload_n 0, 1) := by decide +kernel
theorem dX3_readSign_1 : decode cX3_readSign 1 = .ok (.getfield 12, 3) := by decide +kernel
theorem dX3_readSign_4 : decode cX3_readSign 4 = .ok (.aload_n 0, 1) := by decide +kernel
theorem dX3_readSign_5 : decode cX3_readSign 5 = .ok (.getfield 28, 3) := by decide +kernel
theorem dX3_readSign_8 : decode cX3_readSign 8 = .ok (.invokevirtual 86, 3) := by decide +kernel
theorem dX3_readSign_11 : decode cX3_readSign 11 = .ok (.istore_n 2, 1) := by decide +kernel
theorem dX3_readSign_12 : decode cX3_readSign 12 = .ok (.iload_n 2, 1) := by decide +kernel
theorem dX3_readSign_13 : decode cX3_readSign 13 = .ok (.bipush 43, 2) := by decide +kernel
theorem dX3_readSign_15 : decode cX3_readSign 15 = .ok (.if_icmp .eq 11, 3) := by decide +kernel
theorem dX3_readSign_18 : decode cX3_readSign 18 = .ok (.iload_n 2, 1) := by decide +kernel
theorem dX3_readSign_19 : decode cX3_readSign 19 = .ok (.bipush 45, 2) := by decide +kernel
theorem dX3_readSign_21 : decode cX3_readSign 21 = .ok (.if_icmp .eq 5, 3) := by decide +kernel
theorem dX3_readSign_24 : decode cX3_readSign 24 = .ok (.iconst 0, 1) := by decide +kernel
theorem dX3_readSign_25 : decode cX3_readSign 25 = .ok (.ireturn, 1) := by decide +kernel
theorem dX3_readSign_26 : decode cX3_readSign 26 = .ok (.aload_n 1, 1) := by decide +kernel
theorem dX3_readSign_27 : decode cX3_readSign 27 = .ok (.iload_n 2, 1) := by decide +kernel
theorem dX3_readSign_28 : decode cX3_readSign 28 = .ok (.bipush 43, 2) := by decide +kernel
theorem dX3_readSign_30 : decode cX3_readSign 30 = .ok (.if_icmp .ne 7, 3) := by decide +kernel
theorem dX3_readSign_33 : decode cX3_readSign 33 = .ok (.iconst 1, 1) := by decide +kernel
theorem dX3_readSign_34 : decode cX3_readSign 34 = .ok (.goto 4, 3) := by decide +kernel
theorem dX3_readSign_37 : decode cX3_readSign 37 = .ok (.iconst (-1), 1) := by decide +kernel
theorem dX3_readSign_38 : decode cX3_readSign 38 = .ok (.invokevirtual 102, 3) := by decide +kernel
theorem dX3_readSign_41 : decode cX3_readSign 41 = .ok (.aload_n 0, 1) := by decide +kernel
theorem dX3_readSign_42 : decode cX3_readSign 42 = .ok (.dup, 1) := by decide +kernel
theorem dX3_readSign_43 : decode cX3_readSign 43 = .ok (.getfield 28, 3) := by decide +kernel
theorem dX3_readSign_46 : decode cX3_readSign 46 = .ok (.iconst 1, 1) := by decide +kernel
theorem dX3_readSign_47 : decode cX3_readSign 47 = .ok (.iadd, 1) := by decide +kernel
theorem dX3_readSign_48 : decode cX3_readSign 48 = .ok (.putfield 28, 3) := by decide +kernel
theorem dX3_readSign_51 : decode cX3_readSign 51 = .ok (.iconst 1, 1) := by decide +kernel
theorem dX3_readSign_52 : decode cX3_readSign 52 = .ok (.ireturn, 1) := by decide +kernel
theorem dX3_takeDigit_0 : decode cX3_takeDigit 0 = .ok (.aload_n 0, 1) := by decide +kernel
theorem dX3_takeDigit_1 : decode cX3_takeDigit 1 = .ok (.getfield 12, 3) := by decide +kernel
theorem dX3_takeDigit_4 : decode cX3_takeDigit 4 = .ok (.aload_n 0, 1) := by decide +kernel
theorem dX3_takeDigit_5 : decode cX3_takeDigit 5 = .ok (.getfield 28, 3) := by decide +kernel
theorem dX3_takeDigit_8 : decode cX3_takeDigit 8 = .ok (.invokevirtual 86, 3) := by decide +kernel
theorem dX3_takeDigit_11 : decode cX3_takeDigit 11 = .ok (.istore_n 1, 1) := by decide +kernel
theorem dX3_takeDigit_12 : decode cX3_takeDigit 12 = .ok (.iload_n 1, 1) := by decide +kernel
theorem dX3_takeDigit_13 : decode cX3_takeDigit 13 = .ok (.bipush 48, 2) := by decide +kernel
theorem dX3_takeDigit_15 : decode cX3_takeDigit 15 = .ok (.if_icmp .lt 9, 3) := by decide +kernel
theorem dX3_takeDigit_18 : decode cX3_takeDigit 18 = .ok (.iload_n 1, 1) := by decide +kernel
theorem dX3_takeDigit_19 : decode cX3_takeDigit 19 = .ok (.bipush 57, 2) := by decide +kernel
theorem dX3_takeDigit_21 : decode cX3_takeDigit 21 = .ok (.if_icmp .le 5, 3) := by decide +kernel
theorem dX3_takeDigit_24 : decode cX3_takeDigit 24 = .ok (.iconst (-1), 1) := by decide +kernel
theorem dX3_takeDigit_25 : decode cX3_takeDigit 25 = .ok (.ireturn, 1) := by decide +kernel
theorem dX3_takeDigit_26 : decode cX3_takeDigit 26 = .ok (.aload_n 0, 1) := by decide +kernel
theorem dX3_takeDigit_27 : decode cX3_takeDigit 27 = .ok (.dup, 1) := by decide +kernel
theorem dX3_takeDigit_28 : decode cX3_takeDigit 28 = .ok (.getfield 28, 3) := by decide +kernel
theorem dX3_takeDigit_31 : decode cX3_takeDigit 31 = .ok (.iconst 1, 1) := by decide +kernel
theorem dX3_takeDigit_32 : decode cX3_takeDigit 32 = .ok (.iadd, 1) := by decide +kernel
theorem dX3_takeDigit_33 : decode cX3_takeDigit 33 = .ok (.putfield 28, 3) := by decide +kernel
theorem dX3_takeDigit_36 : decode cX3_takeDigit 36 = .ok (.iload_n 1, 1) := by decide +kernel
theorem dX3_takeDigit_37 : decode cX3_takeDigit 37 = .ok (.bipush 48, 2) := by decide +kernel
theorem dX3_takeDigit_39 : decode cX3_takeDigit 39 = .ok (.isub, 1) := by decide +kernel
theorem dX3_takeDigit_40 : decode cX3_takeDigit 40 = .ok (.ireturn, 1) := by decide +kernel
theorem dX3_take_0 : decode cX3_take 0 = .ok (.aload_n 0, 1) := by decide +kernel
theorem dX3_take_1 : decode cX3_take 1 = .ok (.getfield 12, 3) := by decide +kernel
theorem dX3_take_4 : decode cX3_take 4 = .ok (.aload_n 0, 1) := by decide +kernel
theorem dX3_take_5 : decode cX3_take 5 = .ok (.getfield 28, 3) := by decide +kernel
theorem dX3_take_8 : decode cX3_take 8 = .ok (.invokevirtual 86, 3) := by decide +kernel
theorem dX3_take_11 : decode cX3_take 11 = .ok (.iload_n 1, 1) := by decide +kernel
theorem dX3_take_12 : decode cX3_take 12 = .ok (.if_icmp .eq 5, 3) := by decide +kernel
theorem dX3_take_15 : decode cX3_take 15 = .ok (.iconst 0, 1) := by decide +kernel
theorem dX3_take_16 : decode cX3_take 16 = .ok (.ireturn, 1) := by decide +kernel
theorem dX3_take_17 : decode cX3_take 17 = .ok (.aload_n 0, 1) := by decide +kernel
theorem dX3_take_18 : decode cX3_take 18 = .ok (.dup, 1) := by decide +kernel
theorem dX3_take_19 : decode cX3_take 19 = .ok (.getfield 28, 3) := by decide +kernel
theorem dX3_take_22 : decode cX3_take 22 = .ok (.iconst 1, 1) := by decide +kernel
theorem dX3_take_23 : decode cX3_take 23 = .ok (.iadd, 1) := by decide +kernel
theorem dX3_take_24 : decode cX3_take 24 = .ok (.putfield 28, 3) := by decide +kernel
theorem dX3_take_27 : decode cX3_take 27 = .ok (.iconst 1, 1) := by decide +kernel
theorem dX3_take_28 : decode cX3_take 28 = .ok (.ireturn, 1) := by decide +kernel
theorem dX4_init_0 : decode cX4_init 0 = .ok (.aload_n 0, 1) := by decide +kernel
theorem dX4_init_1 : decode cX4_init 1 = .ok (.invokespecial 3, 3) := by decide +kernel
theorem dX4_init_4 : decode cX4_init 4 = .ok (.aload_n 0, 1) := by decide +kernel
theorem dX4_init_5 : decode cX4_init 5 = .ok (.bipush 115, 2) := by decide +kernel
theorem dX4_init_7 : decode cX4_init 7 = .ok (.putfield 9, 3) := by decide +kernel
theorem dX4_init_10 : decode cX4_init 10 = .ok (.aload_n 0, 1) := by decide +kernel
theorem dX4_init_11 : decode cX4_init 11 = .ok (.iconst 1, 1) := by decide +kernel
theorem dX4_init_12 : decode cX4_init 12 = .ok (.putfield 15, 3) := by decide +kernel
theorem dX4_init_15 : decode cX4_init 15 = .ok (.aload_n 0, 1) := by decide +kernel
theorem dX4_init_16 : decode cX4_init 16 = .ok (.iconst 1, 1) := by decide +kernel
theorem dX4_init_17 : decode cX4_init 17 = .ok (.putfield 19, 3) := by decide +kernel
theorem dX4_init_20 : decode cX4_init 20 = .ok (.aload_n 0, 1) := by decide +kernel
theorem dX4_init_21 : decode cX4_init 21 = .ok (.bipush 36, 2) := by decide +kernel
theorem dX4_init_23 : decode cX4_init 23 = .ok (.newarray .int, 2) := by decide +kernel
theorem dX4_init_25 : decode cX4_init 25 = .ok (.putfield 22, 3) := by decide +kernel
theorem dX4_init_28 : decode cX4_init 28 = .ok (.aload_n 0, 1) := by decide +kernel
theorem dX4_init_29 : decode cX4_init 29 = .ok (.iconst 0, 1) := by decide +kernel
theorem dX4_init_30 : decode cX4_init 30 = .ok (.putfield 26, 3) := by decide +kernel
theorem dX4_init_33 : decode cX4_init 33 = .ok (.aload_n 0, 1) := by decide +kernel
theorem dX4_init_34 : decode cX4_init 34 = .ok (.iconst 0, 1) := by decide +kernel
theorem dX4_init_35 : decode cX4_init 35 = .ok (.putfield 29, 3) := by decide +kernel
theorem dX4_init_38 : decode cX4_init 38 = .ok (.aload_n 0, 1) := by decide +kernel
theorem dX4_init_39 : decode cX4_init 39 = .ok (.iconst 0, 1) := by decide +kernel
theorem dX4_init_40 : decode cX4_init 40 = .ok (.putfield 32, 3) := by decide +kernel
theorem dX4_init_43 : decode cX4_init 43 = .ok (.aload_n 0, 1) := by decide +kernel
theorem dX4_init_44 : decode cX4_init 44 = .ok (.iconst 0, 1) := by decide +kernel
theorem dX4_init_45 : decode cX4_init 45 = .ok (.putfield 35, 3) := by decide +kernel
theorem dX4_init_48 : decode cX4_init 48 = .ok (.return_, 1) := by decide +kernel
theorem dX4_begin_0 : decode cX4_begin 0 = .ok (.aload_n 0, 1) := by decide +kernel
theorem dX4_begin_1 : decode cX4_begin 1 = .ok (.iload_n 1, 1) := by decide +kernel
theorem dX4_begin_2 : decode cX4_begin 2 = .ok (.putfield 9, 3) := by decide +kernel
theorem dX4_begin_5 : decode cX4_begin 5 = .ok (.aload_n 0, 1) := by decide +kernel
theorem dX4_begin_6 : decode cX4_begin 6 = .ok (.iload_n 2, 1) := by decide +kernel
theorem dX4_begin_7 : decode cX4_begin 7 = .ok (.putfield 15, 3) := by decide +kernel
theorem dX4_begin_10 : decode cX4_begin 10 = .ok (.aload_n 0, 1) := by decide +kernel
theorem dX4_begin_11 : decode cX4_begin 11 = .ok (.iload_n 3, 1) := by decide +kernel
theorem dX4_begin_12 : decode cX4_begin 12 = .ok (.putfield 19, 3) := by decide +kernel
theorem dX4_begin_15 : decode cX4_begin 15 = .ok (.iconst 0, 1) := by decide +kernel
theorem dX4_begin_16 : decode cX4_begin 16 = .ok (.istore 4, 2) := by decide +kernel
theorem dX4_begin_18 : decode cX4_begin 18 = .ok (.iload 4, 2) := by decide +kernel
theorem dX4_begin_20 : decode cX4_begin 20 = .ok (.aload_n 0, 1) := by decide +kernel
theorem dX4_begin_21 : decode cX4_begin 21 = .ok (.getfield 22, 3) := by decide +kernel
theorem dX4_begin_24 : decode cX4_begin 24 = .ok (.arraylength, 1) := by decide +kernel
theorem dX4_begin_25 : decode cX4_begin 25 = .ok (.if_icmp .ge 17, 3) := by decide +kernel
theorem dX4_begin_28 : decode cX4_begin 28 = .ok (.aload_n 0, 1) := by decide +kernel
theorem dX4_begin_29 : decode cX4_begin 29 = .ok (.getfield 22, 3) := by decide +kernel
theorem dX4_begin_32 : decode cX4_begin 32 = .ok (.iload 4, 2) := by decide +kernel
theorem dX4_begin_34 : decode cX4_begin 34 = .ok (.iconst 0, 1) := by decide +kernel
theorem dX4_begin_35 : decode cX4_begin 35 = .ok (.iastore, 1) := by decide +kernel
theorem dX4_begin_36 : decode cX4_begin 36 = .ok (.iinc 4 1, 3) := by decide +kernel
theorem dX4_begin_39 : decode cX4_begin 39 = .ok (.goto (-21), 3) := by decide +kernel
theorem dX4_begin_42 : decode cX4_begin 42 = .ok (.aload_n 0, 1) := by decide +kernel
theorem dX4_begin_43 : decode cX4_begin 43 = .ok (.iconst 0, 1) := by decide +kernel
theorem dX4_begin_44 : decode cX4_begin 44 = .ok (.putfield 26, 3) := by decide +kernel
theorem dX4_begin_47 : decode cX4_begin 47 = .ok (.aload_n 0, 1) := by decide +kernel
theorem dX4_begin_48 : decode cX4_begin 48 = .ok (.iconst 0, 1) := by decide +kernel
theorem dX4_begin_49 : decode cX4_begin 49 = .ok (.putfield 29, 3) := by decide +kernel
theorem dX4_begin_52 : decode cX4_begin 52 = .ok (.aload_n 0, 1) := by decide +kernel
theorem dX4_begin_53 : decode cX4_begin 53 = .ok (.iconst 0, 1) := by decide +kernel
theorem dX4_begin_54 : decode cX4_begin 54 = .ok (.putfield 32, 3) := by decide +kernel
theorem dX4_begin_57 : decode cX4_begin 57 = .ok (.aload_n 0, 1) := by decide +kernel
theorem dX4_begin_58 : decode cX4_begin 58 = .ok (.iconst 0, 1) := by decide +kernel
theorem dX4_begin_59 : decode cX4_begin 59 = .ok (.putfield 35, 3) := by decide +kernel
theorem dX4_begin_62 : decode cX4_begin 62 = .ok (.return_, 1) := by decide +kernel
theorem dX4_copyFrom_0 : decode cX4_copyFrom 0 = .ok (.aload_n 0, 1) := by decide +kernel
theorem dX4_copyFrom_1 : decode cX4_copyFrom 1 = .ok (.aload_n 1, 1) := by decide +kernel
theorem dX4_copyFrom_2 : decode cX4_copyFrom 2 = .ok (.getfield 9, 3) := by decide +kernel
theorem dX4_copyFrom_5 : decode cX4_copyFrom 5 = .ok (.putfield 9, 3) := by decide +kernel
theorem dX4_copyFrom_8 : decode cX4_copyFrom 8 = .ok (.aload_n 0, 1) := by decide +kernel
theorem dX4_copyFrom_9 : decode cX4_copyFrom 9 = .ok (.aload_n 1, 1) := by decide +kernel
theorem dX4_copyFrom_10 : decode cX4_copyFrom 10 = .ok (.getfield 15, 3) := by decide +kernel
theorem dX4_copyFrom_13 : decode cX4_copyFrom 13 = .ok (.putfield 15, 3) := by decide +kernel
theorem dX4_copyFrom_16 : decode cX4_copyFrom 16 = .ok (.aload_n 0, 1) := by decide +kernel
theorem dX4_copyFrom_17 : decode cX4_copyFrom 17 = .ok (.aload_n 1, 1) := by decide +kernel
theorem dX4_copyFrom_18 : decode cX4_copyFrom 18 = .ok (.getfield 19, 3) := by decide +kernel
theorem dX4_copyFrom_21 : decode cX4_copyFrom 21 = .ok (.putfield 19, 3) := by decide +kernel
theorem dX4_copyFrom_24 : decode cX4_copyFrom 24 = .ok (.aload_n 1, 1) := by decide +kernel
theorem dX4_copyFrom_25 : decode cX4_copyFrom 25 = .ok (.getfield 22, 3) := by decide +kernel
theorem dX4_copyFrom_28 : decode cX4_copyFrom 28 = .ok (.aload_n 0, 1) := by decide +kernel
theorem dX4_copyFrom_29 : decode cX4_copyFrom 29 = .ok (.getfield 22, 3) := by decide +kernel
theorem dX4_copyFrom_32 : decode cX4_copyFrom 32 = .ok (.invokestatic 38, 3) := by decide +kernel
theorem dX4_copyFrom_35 : decode cX4_copyFrom 35 = .ok (.aload_n 0, 1) := by decide +kernel
theorem dX4_copyFrom_36 : decode cX4_copyFrom 36 = .ok (.aload_n 1, 1) := by decide +kernel
theorem dX4_copyFrom_37 : decode cX4_copyFrom 37 = .ok (.getfield 26, 3) := by decide +kernel
theorem dX4_copyFrom_40 : decode cX4_copyFrom 40 = .ok (.putfield 26, 3) := by decide +kernel
theorem dX4_copyFrom_43 : decode cX4_copyFrom 43 = .ok (.aload_n 0, 1) := by decide +kernel
theorem dX4_copyFrom_44 : decode cX4_copyFrom 44 = .ok (.aload_n 1, 1) := by decide +kernel
theorem dX4_copyFrom_45 : decode cX4_copyFrom 45 = .ok (.getfield 29, 3) := by decide +kernel
theorem dX4_copyFrom_48 : decode cX4_copyFrom 48 = .ok (.putfield 29, 3) := by decide +kernel
theorem dX4_copyFrom_51 : decode cX4_copyFrom 51 = .ok (.aload_n 0, 1) := by decide +kernel
theorem dX4_copyFrom_52 : decode cX4_copyFrom 52 = .ok (.aload_n 1, 1) := by decide +kernel
theorem dX4_copyFrom_53 : decode cX4_copyFrom 53 = .ok (.getfield 32, 3) := by decide +kernel
theorem dX4_copyFrom_56 : decode cX4_copyFrom 56 = .ok (.putfield 32, 3) := by decide +kernel
theorem dX4_copyFrom_59 : decode cX4_copyFrom 59 = .ok (.aload_n 0, 1) := by decide +kernel
theorem dX4_copyFrom_60 : decode cX4_copyFrom 60 = .ok (.aload_n 1, 1) := by decide +kernel
theorem dX4_copyFrom_61 : decode cX4_copyFrom 61 = .ok (.getfield 35, 3) := by decide +kernel
theorem dX4_copyFrom_64 : decode cX4_copyFrom 64 = .ok (.putfield 35, 3) := by decide +kernel
theorem dX4_copyFrom_67 : decode cX4_copyFrom 67 = .ok (.return_, 1) := by decide +kernel
theorem dX4_hasRow_0 : decode cX4_hasRow 0 = .ok (.iload_n 1, 1) := by decide +kernel
theorem dX4_hasRow_1 : decode cX4_hasRow 1 = .ok (.ifCond .lt 21, 3) := by decide +kernel
theorem dX4_hasRow_4 : decode cX4_hasRow 4 = .ok (.iload_n 1, 1) := by decide +kernel
theorem dX4_hasRow_5 : decode cX4_hasRow 5 = .ok (.aload_n 0, 1) := by decide +kernel
theorem dX4_hasRow_6 : decode cX4_hasRow 6 = .ok (.getfield 15, 3) := by decide +kernel
theorem dX4_hasRow_9 : decode cX4_hasRow 9 = .ok (.if_icmp .ge 13, 3) := by decide +kernel
theorem dX4_hasRow_12 : decode cX4_hasRow 12 = .ok (.iload_n 1, 1) := by decide +kernel
theorem dX4_hasRow_13 : decode cX4_hasRow 13 = .ok (.bipush 6, 2) := by decide +kernel
theorem dX4_hasRow_15 : decode cX4_hasRow 15 = .ok (.if_icmp .ge 7, 3) := by decide +kernel
theorem dX4_hasRow_18 : decode cX4_hasRow 18 = .ok (.iconst 1, 1) := by decide +kernel
theorem dX4_hasRow_19 : decode cX4_hasRow 19 = .ok (.goto 4, 3) := by decide +kernel
theorem dX4_hasRow_22 : decode cX4_hasRow 22 = .ok (.iconst 0, 1) := by decide +kernel
theorem dX4_hasRow_23 : decode cX4_hasRow 23 = .ok (.ireturn, 1) := by decide +kernel
theorem dX4_hasColumn_0 : decode cX4_hasColumn 0 = .ok (.iload_n 1, 1) := by decide +kernel
theorem dX4_hasColumn_1 : decode cX4_hasColumn 1 = .ok (.ifCond .lt 21, 3) := by decide +kernel
theorem dX4_hasColumn_4 : decode cX4_hasColumn 4 = .ok (.iload_n 1, 1) := by decide +kernel
theorem dX4_hasColumn_5 : decode cX4_hasColumn 5 = .ok (.aload_n 0, 1) := by decide +kernel
theorem dX4_hasColumn_6 : decode cX4_hasColumn 6 = .ok (.getfield 19, 3) := by decide +kernel
theorem dX4_hasColumn_9 : decode cX4_hasColumn 9 = .ok (.if_icmp .ge 13, 3) := by decide +kernel
theorem dX4_hasColumn_12 : decode cX4_hasColumn 12 = .ok (.iload_n 1, 1) := by decide +kernel
theorem dX4_hasColumn_13 : decode cX4_hasColumn 13 = .ok (.bipush 6, 2) := by decide +kernel
theorem dX4_hasColumn_15 : decode cX4_hasColumn 15 = .ok (.if_icmp .ge 7, 3) := by decide +kernel
theorem dX4_hasColumn_18 : decode cX4_hasColumn 18 = .ok (.iconst 1, 1) := by decide +kernel
theorem dX4_hasColumn_19 : decode cX4_hasColumn 19 = .ok (.goto 4, 3) := by decide +kernel
theorem dX4_hasColumn_22 : decode cX4_hasColumn 22 = .ok (.iconst 0, 1) := by decide +kernel
theorem dX4_hasColumn_23 : decode cX4_hasColumn 23 = .ok (.ireturn, 1) := by decide +kernel
theorem dX4_hasPlace_0 : decode cX4_hasPlace 0 = .ok (.aload_n 0, 1) := by decide +kernel
theorem dX4_hasPlace_1 : decode cX4_hasPlace 1 = .ok (.iload_n 1, 1) := by decide +kernel
theorem dX4_hasPlace_2 : decode cX4_hasPlace 2 = .ok (.invokevirtual 42, 3) := by decide +kernel
theorem dX4_hasPlace_5 : decode cX4_hasPlace 5 = .ok (.ifCond .eq 15, 3) := by decide +kernel
theorem dX4_hasPlace_8 : decode cX4_hasPlace 8 = .ok (.aload_n 0, 1) := by decide +kernel
theorem dX4_hasPlace_9 : decode cX4_hasPlace 9 = .ok (.iload_n 2, 1) := by decide +kernel
theorem dX4_hasPlace_10 : decode cX4_hasPlace 10 = .ok (.invokevirtual 46, 3) := by decide +kernel
theorem dX4_hasPlace_13 : decode cX4_hasPlace 13 = .ok (.ifCond .eq 7, 3) := by decide +kernel
theorem dX4_hasPlace_16 : decode cX4_hasPlace 16 = .ok (.iconst 1, 1) := by decide +kernel
theorem dX4_hasPlace_17 : decode cX4_hasPlace 17 = .ok (.goto 4, 3) := by decide +kernel
theorem dX4_hasPlace_20 : decode cX4_hasPlace 20 = .ok (.iconst 0, 1) := by decide +kernel
theorem dX4_hasPlace_21 : decode cX4_hasPlace 21 = .ok (.ireturn, 1) := by decide +kernel
theorem dX4_noteAt_0 : decode cX4_noteAt 0 = .ok (.aload_n 0, 1) := by decide +kernel
theorem dX4_noteAt_1 : decode cX4_noteAt 1 = .ok (.iload_n 1, 1) := by decide +kernel
theorem dX4_noteAt_2 : decode cX4_noteAt 2 = .ok (.iload_n 2, 1) := by decide +kernel
theorem dX4_noteAt_3 : decode cX4_noteAt 3 = .ok (.invokevirtual 49, 3) := by decide +kernel
theorem dX4_noteAt_6 : decode cX4_noteAt 6 = .ok (.ifCond .eq 17, 3) := by decide +kernel
theorem dX4_noteAt_9 : decode cX4_noteAt 9 = .ok (.aload_n 0, 1) := by decide +kernel
theorem dX4_noteAt_10 : decode cX4_noteAt 10 = .ok (.getfield 22, 3) := by decide +kernel
theorem dX4_noteAt_13 : decode cX4_noteAt 13 = .ok (.iload_n 1, 1) := by decide +kernel
theorem dX4_noteAt_14 : decode cX4_noteAt 14 = .ok (.bipush 6, 2) := by decide +kernel
theorem dX4_noteAt_16 : decode cX4_noteAt 16 = .ok (.imul, 1) := by decide +kernel
theorem dX4_noteAt_17 : decode cX4_noteAt 17 = .ok (.iload_n 2, 1) := by decide +kernel
theorem dX4_noteAt_18 : decode cX4_noteAt 18 = .ok (.iadd, 1) := by decide +kernel
theorem dX4_noteAt_19 : decode cX4_noteAt 19 = .ok (.iaload, 1) := by decide +kernel
theorem dX4_noteAt_20 : decode cX4_noteAt 20 = .ok (.goto 4, 3) := by decide +kernel
theorem dX4_noteAt_23 : decode cX4_noteAt 23 = .ok (.iconst 0, 1) := by decide +kernel
theorem dX4_noteAt_24 : decode cX4_noteAt 24 = .ok (.ireturn, 1) := by decide +kernel
theorem dX4_putNote_0 : decode cX4_putNote 0 = .ok (.aload_n 0, 1) := by decide +kernel
theorem dX4_putNote_1 : decode cX4_putNote 1 = .ok (.iload_n 1, 1) := by decide +kernel
theorem dX4_putNote_2 : decode cX4_putNote 2 = .ok (.iload_n 2, 1) := by decide +kernel
theorem dX4_putNote_3 : decode cX4_putNote 3 = .ok (.invokevirtual 49, 3) := by decide +kernel
theorem dX4_putNote_6 : decode cX4_putNote 6 = .ok (.ifCond .eq 15, 3) := by decide +kernel
theorem dX4_putNote_9 : decode cX4_putNote 9 = .ok (.aload_n 0, 1) := by decide +kernel
theorem dX4_putNote_10 : decode cX4_putNote 10 = .ok (.getfield 22, 3) := by decide +kernel
theorem dX4_putNote_13 : decode cX4_putNote 13 = .ok (.iload_n 1, 1) := by decide +kernel
theorem dX4_putNote_14 : decode cX4_putNote 14 = .ok (.bipush 6, 2) := by decide +kernel
theorem dX4_putNote_16 : decode cX4_putNote 16 = .ok (.imul, 1) := by decide +kernel
theorem dX4_putNote_17 : decode cX4_putNote 17 = .ok (.iload_n 2, 1) := by decide +kernel
theorem dX4_putNote_18 : decode cX4_putNote 18 = .ok (.iadd, 1) := by decide +kernel
theorem dX4_putNote_19 : decode cX4_putNote 19 = .ok (.iload_n 3, 1) := by decide +kernel
theorem dX4_putNote_20 : decode cX4_putNote 20 = .ok (.iastore, 1) := by decide +kernel
theorem dX4_putNote_21 : decode cX4_putNote 21 = .ok (.return_, 1) := by decide +kernel
theorem dX4_hasScoreOf_0 : decode cX4_hasScoreOf 0 = .ok (.aload_n 0, 1) := by decide +kernel
theorem dX4_hasScoreOf_1 : decode cX4_hasScoreOf 1 = .ok (.getfield 15, 3) := by decide +kernel
theorem dX4_hasScoreOf_4 : decode cX4_hasScoreOf 4 = .ok (.aload_n 1, 1) := by decide +kernel
theorem dX4_hasScoreOf_5 : decode cX4_hasScoreOf 5 = .ok (.getfield 15, 3) := by decide +kernel
theorem dX4_hasScoreOf_8 : decode cX4_hasScoreOf 8 = .ok (.if_icmp .ne 14, 3) := by decide +kernel
theorem dX4_hasScoreOf_11 : decode cX4_hasScoreOf 11 = .ok (.aload_n 0, 1) := by decide +kernel
theorem dX4_hasScoreOf_12 : decode cX4_hasScoreOf 12 = .ok (.getfield 19, 3) := by decide +kernel
theorem dX4_hasScoreOf_15 : decode cX4_hasScoreOf 15 = .ok (.aload_n 1, 1) := by decide +kernel
theorem dX4_hasScoreOf_16 : decode cX4_hasScoreOf 16 = .ok (.getfield 19, 3) := by decide +kernel
theorem dX4_hasScoreOf_19 : decode cX4_hasScoreOf 19 = .ok (.if_icmp .eq 5, 3) := by decide +kernel
theorem dX4_hasScoreOf_22 : decode cX4_hasScoreOf 22 = .ok (.iconst 0, 1) := by decide +kernel
theorem dX4_hasScoreOf_23 : decode cX4_hasScoreOf 23 = .ok (.ireturn, 1) := by decide +kernel
theorem dX4_hasScoreOf_24 : decode cX4_hasScoreOf 24 = .ok (.iconst 0, 1) := by decide +kernel
theorem dX4_hasScoreOf_25 : decode cX4_hasScoreOf 25 = .ok (.istore_n 2, 1) := by decide +kernel
theorem dX4_hasScoreOf_26 : decode cX4_hasScoreOf 26 = .ok (.iload_n 2, 1) := by decide +kernel
theorem dX4_hasScoreOf_27 : decode cX4_hasScoreOf 27 = .ok (.aload_n 0, 1) := by decide +kernel
theorem dX4_hasScoreOf_28 : decode cX4_hasScoreOf 28 = .ok (.getfield 22, 3) := by decide +kernel
theorem dX4_hasScoreOf_31 : decode cX4_hasScoreOf 31 = .ok (.arraylength, 1) := by decide +kernel
theorem dX4_hasScoreOf_32 : decode cX4_hasScoreOf 32 = .ok (.if_icmp .ge 35, 3) := by decide +kernel
theorem dX4_hasScoreOf_35 : decode cX4_hasScoreOf 35 = .ok (.iload_n 2, 1) := by decide +kernel
theorem dX4_hasScoreOf_36 : decode cX4_hasScoreOf 36 = .ok (.aload_n 1, 1) := by decide +kernel
theorem dX4_hasScoreOf_37 : decode cX4_hasScoreOf 37 = .ok (.getfield 22, 3) := by decide +kernel
theorem dX4_hasScoreOf_40 : decode cX4_hasScoreOf 40 = .ok (.arraylength, 1) := by decide +kernel
theorem dX4_hasScoreOf_41 : decode cX4_hasScoreOf 41 = .ok (.if_icmp .ge 26, 3) := by decide +kernel
theorem dX4_hasScoreOf_44 : decode cX4_hasScoreOf 44 = .ok (.aload_n 0, 1) := by decide +kernel
theorem dX4_hasScoreOf_45 : decode cX4_hasScoreOf 45 = .ok (.getfield 22, 3) := by decide +kernel
theorem dX4_hasScoreOf_48 : decode cX4_hasScoreOf 48 = .ok (.iload_n 2, 1) := by decide +kernel
theorem dX4_hasScoreOf_49 : decode cX4_hasScoreOf 49 = .ok (.iaload, 1) := by decide +kernel
theorem dX4_hasScoreOf_50 : decode cX4_hasScoreOf 50 = .ok (.aload_n 1, 1) := by decide +kernel
theorem dX4_hasScoreOf_51 : decode cX4_hasScoreOf 51 = .ok (.getfield 22, 3) := by decide +kernel
theorem dX4_hasScoreOf_54 : decode cX4_hasScoreOf 54 = .ok (.iload_n 2, 1) := by decide +kernel
theorem dX4_hasScoreOf_55 : decode cX4_hasScoreOf 55 = .ok (.iaload, 1) := by decide +kernel
theorem dX4_hasScoreOf_56 : decode cX4_hasScoreOf 56 = .ok (.if_icmp .eq 5, 3) := by decide +kernel
theorem dX4_hasScoreOf_59 : decode cX4_hasScoreOf 59 = .ok (.iconst 0, 1) := by decide +kernel
theorem dX4_hasScoreOf_60 : decode cX4_hasScoreOf 60 = .ok (.ireturn, 1) := by decide +kernel
theorem dX4_hasScoreOf_61 : decode cX4_hasScoreOf 61 = .ok (.iinc 2 1, 3) := by decide +kernel
theorem dX4_hasScoreOf_64 : decode cX4_hasScoreOf 64 = .ok (.goto (-38), 3) := by decide +kernel
theorem dX4_hasScoreOf_67 : decode cX4_hasScoreOf 67 = .ok (.iconst 1, 1) := by decide +kernel
theorem dX4_hasScoreOf_68 : decode cX4_hasScoreOf 68 = .ok (.ireturn, 1) := by decide +kernel
theorem dX4_flip_0 : decode cX4_flip 0 = .ok (.iconst 0, 1) := by decide +kernel
theorem dX4_flip_1 : decode cX4_flip 1 = .ok (.istore_n 1, 1) := by decide +kernel
theorem dX4_flip_2 : decode cX4_flip 2 = .ok (.iload_n 1, 1) := by decide +kernel
theorem dX4_flip_3 : decode cX4_flip 3 = .ok (.bipush 6, 2) := by decide +kernel
theorem dX4_flip_5 : decode cX4_flip 5 = .ok (.if_icmp .ge 67, 3) := by decide +kernel
theorem dX4_flip_8 : decode cX4_flip 8 = .ok (.iconst 0, 1) := by decide +kernel
theorem dX4_flip_9 : decode cX4_flip 9 = .ok (.istore_n 2, 1) := by decide +kernel
theorem dX4_flip_10 : decode cX4_flip 10 = .ok (.iload_n 2, 1) := by decide +kernel
theorem dX4_flip_11 : decode cX4_flip 11 = .ok (.iload_n 1, 1) := by decide +kernel
theorem dX4_flip_12 : decode cX4_flip 12 = .ok (.if_icmp .ge 54, 3) := by decide +kernel
theorem dX4_flip_15 : decode cX4_flip 15 = .ok (.iload_n 1, 1) := by decide +kernel
theorem dX4_flip_16 : decode cX4_flip 16 = .ok (.bipush 6, 2) := by decide +kernel
theorem dX4_flip_18 : decode cX4_flip 18 = .ok (.imul, 1) := by decide +kernel
theorem dX4_flip_19 : decode cX4_flip 19 = .ok (.iload_n 2, 1) := by decide +kernel
theorem dX4_flip_20 : decode cX4_flip 20 = .ok (.iadd, 1) := by decide +kernel
theorem dX4_flip_21 : decode cX4_flip 21 = .ok (.istore_n 3, 1) := by decide +kernel
theorem dX4_flip_22 : decode cX4_flip 22 = .ok (.iload_n 2, 1) := by decide +kernel
theorem dX4_flip_23 : decode cX4_flip 23 = .ok (.bipush 6, 2) := by decide +kernel
theorem dX4_flip_25 : decode cX4_flip 25 = .ok (.imul, 1) := by decide +kernel
theorem dX4_flip_26 : decode cX4_flip 26 = .ok (.iload_n 1, 1) := by decide +kernel
theorem dX4_flip_27 : decode cX4_flip 27 = .ok (.iadd, 1) := by decide +kernel
theorem dX4_flip_28 : decode cX4_flip 28 = .ok (.istore 4, 2) := by decide +kernel
theorem dX4_flip_30 : decode cX4_flip 30 = .ok (.aload_n 0, 1) := by decide +kernel
theorem dX4_flip_31 : decode cX4_flip 31 = .ok (.getfield 22, 3) := by decide +kernel
theorem dX4_flip_34 : decode cX4_flip 34 = .ok (.iload_n 3, 1) := by decide +kernel
theorem dX4_flip_35 : decode cX4_flip 35 = .ok (.iaload, 1) := by decide +kernel
theorem dX4_flip_36 : decode cX4_flip 36 = .ok (.istore 5, 2) := by decide +kernel
theorem dX4_flip_38 : decode cX4_flip 38 = .ok (.aload_n 0, 1) := by decide +kernel
theorem dX4_flip_39 : decode cX4_flip 39 = .ok (.getfield 22, 3) := by decide +kernel
theorem dX4_flip_42 : decode cX4_flip 42 = .ok (.iload_n 3, 1) := by decide +kernel
theorem dX4_flip_43 : decode cX4_flip 43 = .ok (.aload_n 0, 1) := by decide +kernel
theorem dX4_flip_44 : decode cX4_flip 44 = .ok (.getfield 22, 3) := by decide +kernel
theorem dX4_flip_47 : decode cX4_flip 47 = .ok (.iload 4, 2) := by decide +kernel
theorem dX4_flip_49 : decode cX4_flip 49 = .ok (.iaload, 1) := by decide +kernel
theorem dX4_flip_50 : decode cX4_flip 50 = .ok (.iastore, 1) := by decide +kernel
theorem dX4_flip_51 : decode cX4_flip 51 = .ok (.aload_n 0, 1) := by decide +kernel
theorem dX4_flip_52 : decode cX4_flip 52 = .ok (.getfield 22, 3) := by decide +kernel
theorem dX4_flip_55 : decode cX4_flip 55 = .ok (.iload 4, 2) := by decide +kernel
theorem dX4_flip_57 : decode cX4_flip 57 = .ok (.iload 5, 2) := by decide +kernel
theorem dX4_flip_59 : decode cX4_flip 59 = .ok (.iastore, 1) := by decide +kernel
theorem dX4_flip_60 : decode cX4_flip 60 = .ok (.iinc 2 1, 3) := by decide +kernel
theorem dX4_flip_63 : decode cX4_flip 63 = .ok (.goto (-53), 3) := by decide +kernel
theorem dX4_flip_66 : decode cX4_flip 66 = .ok (.iinc 1 1, 3) := by decide +kernel
theorem dX4_flip_69 : decode cX4_flip 69 = .ok (.goto (-67), 3) := by decide +kernel
theorem dX4_flip_72 : decode cX4_flip 72 = .ok (.aload_n 0, 1) := by decide +kernel
theorem dX4_flip_73 : decode cX4_flip 73 = .ok (.getfield 15, 3) := by decide +kernel
theorem dX4_flip_76 : decode cX4_flip 76 = .ok (.istore_n 1, 1) := by decide +kernel
theorem dX4_flip_77 : decode cX4_flip 77 = .ok (.aload_n 0, 1) := by decide +kernel
theorem dX4_flip_78 : decode cX4_flip 78 = .ok (.aload_n 0, 1) := by decide +kernel
theorem dX4_flip_79 : decode cX4_flip 79 = .ok (.getfield 19, 3) := by decide +kernel
theorem dX4_flip_82 : decode cX4_flip 82 = .ok (.putfield 15, 3) := by decide +kernel
theorem dX4_flip_85 : decode cX4_flip 85 = .ok (.aload_n 0, 1) := by decide +kernel
theorem dX4_flip_86 : decode cX4_flip 86 = .ok (.iload_n 1, 1) := by decide +kernel
theorem dX4_flip_87 : decode cX4_flip 87 = .ok (.putfield 19, 3) := by decide +kernel
theorem dX4_flip_90 : decode cX4_flip 90 = .ok (.return_, 1) := by decide +kernel
theorem dX4_turn_0 : decode cX4_turn 0 = .ok (.iconst 0, 1) := by decide +kernel
theorem dX4_turn_1 : decode cX4_turn 1 = .ok (.istore_n 1, 1) := by decide +kernel
theorem dX4_turn_2 : decode cX4_turn 2 = .ok (.iconst 0, 1) := by decide +kernel
theorem dX4_turn_3 : decode cX4_turn 3 = .ok (.istore_n 2, 1) := by decide +kernel
theorem dX4_turn_4 : decode cX4_turn 4 = .ok (.iload_n 2, 1) := by decide +kernel
theorem dX4_turn_5 : decode cX4_turn 5 = .ok (.aload_n 0, 1) := by decide +kernel
theorem dX4_turn_6 : decode cX4_turn 6 = .ok (.getfield 15, 3) := by decide +kernel
theorem dX4_turn_9 : decode cX4_turn 9 = .ok (.if_icmp .ge 81, 3) := by decide +kernel
theorem dX4_turn_12 : decode cX4_turn 12 = .ok (.iconst 0, 1) := by decide +kernel
theorem dX4_turn_13 : decode cX4_turn 13 = .ok (.istore_n 3, 1) := by decide +kernel
theorem dX4_turn_14 : decode cX4_turn 14 = .ok (.iload_n 3, 1) := by decide +kernel
theorem dX4_turn_15 : decode cX4_turn 15 = .ok (.aload_n 0, 1) := by decide +kernel
theorem dX4_turn_16 : decode cX4_turn 16 = .ok (.getfield 19, 3) := by decide +kernel
theorem dX4_turn_19 : decode cX4_turn 19 = .ok (.iconst 2, 1) := by decide +kernel
theorem dX4_turn_20 : decode cX4_turn 20 = .ok (.idiv, 1) := by decide +kernel
theorem dX4_turn_21 : decode cX4_turn 21 = .ok (.if_icmp .ge 63, 3) := by decide +kernel
theorem dX4_turn_24 : decode cX4_turn 24 = .ok (.aload_n 0, 1) := by decide +kernel
theorem dX4_turn_25 : decode cX4_turn 25 = .ok (.getfield 19, 3) := by decide +kernel
theorem dX4_turn_28 : decode cX4_turn 28 = .ok (.iconst 1, 1) := by decide +kernel
theorem dX4_turn_29 : decode cX4_turn 29 = .ok (.isub, 1) := by decide +kernel
theorem dX4_turn_30 : decode cX4_turn 30 = .ok (.iload_n 3, 1) := by decide +kernel
theorem dX4_turn_31 : decode cX4_turn 31 = .ok (.isub, 1) := by decide +kernel
theorem dX4_turn_32 : decode cX4_turn 32 = .ok (.istore 4, 2) := by decide +kernel
theorem dX4_turn_34 : decode cX4_turn 34 = .ok (.aload_n 0, 1) := by decide +kernel
theorem dX4_turn_35 : decode cX4_turn 35 = .ok (.iload_n 2, 1) := by decide +kernel
theorem dX4_turn_36 : decode cX4_turn 36 = .ok (.iload_n 3, 1) := by decide +kernel
theorem dX4_turn_37 : decode cX4_turn 37 = .ok (.invokevirtual 53, 3) := by decide +kernel
theorem dX4_turn_40 : decode cX4_turn 40 = .ok (.istore 5, 2) := by decide +kernel
theorem dX4_turn_42 : decode cX4_turn 42 = .ok (.aload_n 0, 1) := by decide +kernel
theorem dX4_turn_43 : decode cX4_turn 43 = .ok (.iload_n 2, 1) := by decide +kernel
theorem dX4_turn_44 : decode cX4_turn 44 = .ok (.iload_n 3, 1) := by decide +kernel
theorem dX4_turn_45 : decode cX4_turn 45 = .ok (.aload_n 0, 1) := by decide +kernel
theorem dX4_turn_46 : decode cX4_turn 46 = .ok (.iload_n 2, 1) := by decide +kernel
theorem dX4_turn_47 : decode cX4_turn 47 = .ok (.iload 4, 2) := by decide +kernel
theorem dX4_turn_49 : decode cX4_turn 49 = .ok (.invokevirtual 53, 3) := by decide +kernel
theorem dX4_turn_52 : decode cX4_turn 52 = .ok (.invokevirtual 57, 3) := by decide +kernel
theorem dX4_turn_55 : decode cX4_turn 55 = .ok (.aload_n 0, 1) := by decide +kernel
theorem dX4_turn_56 : decode cX4_turn 56 = .ok (.iload_n 2, 1) := by decide +kernel
theorem dX4_turn_57 : decode cX4_turn 57 = .ok (.iload 4, 2) := by decide +kernel
theorem dX4_turn_59 : decode cX4_turn 59 = .ok (.iload 5, 2) := by decide +kernel
theorem dX4_turn_61 : decode cX4_turn 61 = .ok (.invokevirtual 57, 3) := by decide +kernel
theorem dX4_turn_64 : decode cX4_turn 64 = .ok (.aload_n 0, 1) := by decide +kernel
theorem dX4_turn_65 : decode cX4_turn 65 = .ok (.iload_n 2, 1) := by decide +kernel
theorem dX4_turn_66 : decode cX4_turn 66 = .ok (.iload_n 3, 1) := by decide +kernel
theorem dX4_turn_67 : decode cX4_turn 67 = .ok (.invokevirtual 53, 3) := by decide +kernel
theorem dX4_turn_70 : decode cX4_turn 70 = .ok (.iload 5, 2) := by decide +kernel
theorem dX4_turn_72 : decode cX4_turn 72 = .ok (.if_icmp .eq 6, 3) := by decide +kernel
theorem dX4_turn_75 : decode cX4_turn 75 = .ok (.iinc 1 2, 3) := by decide +kernel
theorem dX4_turn_78 : decode cX4_turn 78 = .ok (.iinc 3 1, 3) := by decide +kernel
theorem dX4_turn_81 : decode cX4_turn 81 = .ok (.goto (-67), 3) := by decide +kernel
theorem dX4_turn_84 : decode cX4_turn 84 = .ok (.iinc 2 1, 3) := by decide +kernel
theorem dX4_turn_87 : decode cX4_turn 87 = .ok (.goto (-83), 3) := by decide +kernel
theorem dX4_turn_90 : decode cX4_turn 90 = .ok (.iload_n 1, 1) := by decide +kernel
theorem dX4_turn_91 : decode cX4_turn 91 = .ok (.ireturn, 1) := by decide +kernel
theorem dX4_canLift_0 : decode cX4_canLift 0 = .ok (.iconst 0, 1) := by decide +kernel
theorem dX4_canLift_1 : decode cX4_canLift 1 = .ok (.istore_n 2, 1) := by decide +kernel
theorem dX4_canLift_2 : decode cX4_canLift 2 = .ok (.iload_n 2, 1) := by decide +kernel
theorem dX4_canLift_3 : decode cX4_canLift 3 = .ok (.aload_n 0, 1) := by decide +kernel
theorem dX4_canLift_4 : decode cX4_canLift 4 = .ok (.getfield 22, 3) := by decide +kernel
theorem dX4_canLift_7 : decode cX4_canLift 7 = .ok (.arraylength, 1) := by decide +kernel
theorem dX4_canLift_8 : decode cX4_canLift 8 = .ok (.if_icmp .ge 40, 3) := by decide +kernel
theorem dX4_canLift_11 : decode cX4_canLift 11 = .ok (.aload_n 0, 1) := by decide +kernel
theorem dX4_canLift_12 : decode cX4_canLift 12 = .ok (.getfield 22, 3) := by decide +kernel
theorem dX4_canLift_15 : decode cX4_canLift 15 = .ok (.iload_n 2, 1) := by decide +kernel
theorem dX4_canLift_16 : decode cX4_canLift 16 = .ok (.iaload, 1) := by decide +kernel
theorem dX4_canLift_17 : decode cX4_canLift 17 = .ok (.iload_n 1, 1) := by decide +kernel
theorem dX4_canLift_18 : decode cX4_canLift 18 = .ok (.iadd, 1) := by decide +kernel
theorem dX4_canLift_19 : decode cX4_canLift 19 = .ok (.istore_n 3, 1) := by decide +kernel
theorem dX4_canLift_20 : decode cX4_canLift 20 = .ok (.aload_n 0, 1) := by decide +kernel
theorem dX4_canLift_21 : decode cX4_canLift 21 = .ok (.getfield 22, 3) := by decide +kernel
theorem dX4_canLift_24 : decode cX4_canLift 24 = .ok (.iload_n 2, 1) := by decide +kernel
theorem dX4_canLift_25 : decode cX4_canLift 25 = .ok (.iaload, 1) := by decide +kernel
theorem dX4_canLift_26 : decode cX4_canLift 26 = .ok (.ifCond .eq 16, 3) := by decide +kernel
theorem dX4_canLift_29 : decode cX4_canLift 29 = .ok (.iload_n 3, 1) := by decide +kernel
theorem dX4_canLift_30 : decode cX4_canLift 30 = .ok (.iconst 1, 1) := by decide +kernel
theorem dX4_canLift_31 : decode cX4_canLift 31 = .ok (.if_icmp .lt 9, 3) := by decide +kernel
theorem dX4_canLift_34 : decode cX4_canLift 34 = .ok (.iload_n 3, 1) := by decide +kernel
theorem dX4_canLift_35 : decode cX4_canLift 35 = .ok (.bipush 9, 2) := by decide +kernel
theorem dX4_canLift_37 : decode cX4_canLift 37 = .ok (.if_icmp .le 5, 3) := by decide +kernel
theorem dX4_canLift_40 : decode cX4_canLift 40 = .ok (.iconst 0, 1) := by decide +kernel
theorem dX4_canLift_41 : decode cX4_canLift 41 = .ok (.ireturn, 1) := by decide +kernel
theorem dX4_canLift_42 : decode cX4_canLift 42 = .ok (.iinc 2 1, 3) := by decide +kernel
theorem dX4_canLift_45 : decode cX4_canLift 45 = .ok (.goto (-43), 3) := by decide +kernel
theorem dX4_canLift_48 : decode cX4_canLift 48 = .ok (.iconst 1, 1) := by decide +kernel
theorem dX4_canLift_49 : decode cX4_canLift 49 = .ok (.ireturn, 1) := by decide +kernel
theorem dX4_lift_0 : decode cX4_lift 0 = .ok (.iconst 0, 1) := by decide +kernel
theorem dX4_lift_1 : decode cX4_lift 1 = .ok (.istore_n 2, 1) := by decide +kernel
theorem dX4_lift_2 : decode cX4_lift 2 = .ok (.iconst 0, 1) := by decide +kernel
theorem dX4_lift_3 : decode cX4_lift 3 = .ok (.istore_n 3, 1) := by decide +kernel
theorem dX4_lift_4 : decode cX4_lift 4 = .ok (.iload_n 3, 1) := by decide +kernel
theorem dX4_lift_5 : decode cX4_lift 5 = .ok (.aload_n 0, 1) := by decide +kernel
theorem dX4_lift_6 : decode cX4_lift 6 = .ok (.getfield 22, 3) := by decide +kernel
theorem dX4_lift_9 : decode cX4_lift 9 = .ok (.arraylength, 1) := by decide +kernel
theorem dX4_lift_10 : decode cX4_lift 10 = .ok (.if_icmp .ge 31, 3) := by decide +kernel
theorem dX4_lift_13 : decode cX4_lift 13 = .ok (.aload_n 0, 1) := by decide +kernel
theorem dX4_lift_14 : decode cX4_lift 14 = .ok (.getfield 22, 3) := by decide +kernel
theorem dX4_lift_17 : decode cX4_lift 17 = .ok (.iload_n 3, 1) := by decide +kernel
theorem dX4_lift_18 : decode cX4_lift 18 = .ok (.iaload, 1) := by decide +kernel
theorem dX4_lift_19 : decode cX4_lift 19 = .ok (.ifCond .eq 16, 3) := by decide +kernel
theorem dX4_lift_22 : decode cX4_lift 22 = .ok (.aload_n 0, 1) := by decide +kernel
theorem dX4_lift_23 : decode cX4_lift 23 = .ok (.getfield 22, 3) := by decide +kernel
theorem dX4_lift_26 : decode cX4_lift 26 = .ok (.iload_n 3, 1) := by decide +kernel
theorem dX4_lift_27 : decode cX4_lift 27 = .ok (.dup2, 1) := by decide +kernel
theorem dX4_lift_28 : decode cX4_lift 28 = .ok (.iaload, 1) := by decide +kernel
theorem dX4_lift_29 : decode cX4_lift 29 = .ok (.iload_n 1, 1) := by decide +kernel
theorem dX4_lift_30 : decode cX4_lift 30 = .ok (.iadd, 1) := by decide +kernel
theorem dX4_lift_31 : decode cX4_lift 31 = .ok (.iastore, 1) := by decide +kernel
theorem dX4_lift_32 : decode cX4_lift 32 = .ok (.iinc 2 1, 3) := by decide +kernel
theorem dX4_lift_35 : decode cX4_lift 35 = .ok (.iinc 3 1, 3) := by decide +kernel
theorem dX4_lift_38 : decode cX4_lift 38 = .ok (.goto (-34), 3) := by decide +kernel
theorem dX4_lift_41 : decode cX4_lift 41 = .ok (.iload_n 2, 1) := by decide +kernel
theorem dX4_lift_42 : decode cX4_lift 42 = .ok (.ireturn, 1) := by decide +kernel
theorem dX4_volumeOfColumn_0 : decode cX4_volumeOfColumn 0 = .ok (.iconst 0, 1) := by decide +kernel
theorem dX4_volumeOfColumn_1 : decode cX4_volumeOfColumn 1 = .ok (.istore_n 2, 1) := by decide +kernel
theorem dX4_volumeOfColumn_2 : decode cX4_volumeOfColumn 2 = .ok (.iload_n 1, 1) := by decide +kernel
theorem dX4_volumeOfColumn_3 : decode cX4_volumeOfColumn 3 = .ok (.istore_n 3, 1) := by decide +kernel
theorem dX4_volumeOfColumn_4 : decode cX4_volumeOfColumn 4 = .ok (.iload_n 3, 1) := by decide +kernel
theorem dX4_volumeOfColumn_5 : decode cX4_volumeOfColumn 5 = .ok (.ifCond .lt 34, 3) := by decide +kernel
theorem dX4_volumeOfColumn_8 : decode cX4_volumeOfColumn 8 = .ok (.iload_n 3, 1) := by decide +kernel
theorem dX4_volumeOfColumn_9 : decode cX4_volumeOfColumn 9 = .ok (.aload_n 0, 1) := by decide +kernel
theorem dX4_volumeOfColumn_10 : decode cX4_volumeOfColumn 10 = .ok (.getfield 22, 3) := by decide +kernel
theorem dX4_volumeOfColumn_13 : decode cX4_volumeOfColumn 13 = .ok (.arraylength, 1) := by decide +kernel
theorem dX4_volumeOfColumn_14 : decode cX4_volumeOfColumn 14 = .ok (.if_icmp .ge 25, 3) := by decide +kernel
theorem dX4_volumeOfColumn_17 : decode cX4_volumeOfColumn 17 = .ok (.iload_n 2, 1) := by decide +kernel
theorem dX4_volumeOfColumn_18 : decode cX4_volumeOfColumn 18 = .ok (.aload_n 0, 1) := by decide +kernel
theorem dX4_volumeOfColumn_19 : decode cX4_volumeOfColumn 19 = .ok (.getfield 9, 3) := by decide +kernel
theorem dX4_volumeOfColumn_22 : decode cX4_volumeOfColumn 22 = .ok (.aload_n 0, 1) := by decide +kernel
theorem dX4_volumeOfColumn_23 : decode cX4_volumeOfColumn 23 = .ok (.getfield 22, 3) := by decide +kernel
theorem dX4_volumeOfColumn_26 : decode cX4_volumeOfColumn 26 = .ok (.iload_n 3, 1) := by decide +kernel
theorem dX4_volumeOfColumn_27 : decode cX4_volumeOfColumn 27 = .ok (.iaload, 1) := by decide +kernel
theorem dX4_volumeOfColumn_28 : decode cX4_volumeOfColumn 28 = .ok (.invokestatic 61, 3) := by decide +kernel
theorem dX4_volumeOfColumn_31 : decode cX4_volumeOfColumn 31 = .ok (.iadd, 1) := by decide +kernel
theorem dX4_volumeOfColumn_32 : decode cX4_volumeOfColumn 32 = .ok (.istore_n 2, 1) := by decide +kernel
theorem dX4_volumeOfColumn_33 : decode cX4_volumeOfColumn 33 = .ok (.iinc 3 6, 3) := by decide +kernel
theorem dX4_volumeOfColumn_36 : decode cX4_volumeOfColumn 36 = .ok (.goto (-32), 3) := by decide +kernel
theorem dX4_volumeOfColumn_39 : decode cX4_volumeOfColumn 39 = .ok (.iload_n 2, 1) := by decide +kernel
theorem dX4_volumeOfColumn_40 : decode cX4_volumeOfColumn 40 = .ok (.ireturn, 1) := by decide +kernel
theorem dX4_volumeOfRow_0 : decode cX4_volumeOfRow 0 = .ok (.iconst 0, 1) := by decide +kernel
theorem dX4_volumeOfRow_1 : decode cX4_volumeOfRow 1 = .ok (.istore_n 2, 1) := by decide +kernel
theorem dX4_volumeOfRow_2 : decode cX4_volumeOfRow 2 = .ok (.iconst 0, 1) := by decide +kernel
theorem dX4_volumeOfRow_3 : decode cX4_volumeOfRow 3 = .ok (.istore_n 3, 1) := by decide +kernel
theorem dX4_volumeOfRow_4 : decode cX4_volumeOfRow 4 = .ok (.iload_n 3, 1) := by decide +kernel
theorem dX4_volumeOfRow_5 : decode cX4_volumeOfRow 5 = .ok (.aload_n 0, 1) := by decide +kernel
theorem dX4_volumeOfRow_6 : decode cX4_volumeOfRow 6 = .ok (.getfield 19, 3) := by decide +kernel
theorem dX4_volumeOfRow_9 : decode cX4_volumeOfRow 9 = .ok (.if_icmp .ge 25, 3) := by decide +kernel
theorem dX4_volumeOfRow_12 : decode cX4_volumeOfRow 12 = .ok (.iload_n 2, 1) := by decide +kernel
theorem dX4_volumeOfRow_13 : decode cX4_volumeOfRow 13 = .ok (.aload_n 0, 1) := by decide +kernel
theorem dX4_volumeOfRow_14 : decode cX4_volumeOfRow 14 = .ok (.getfield 9, 3) := by decide +kernel
theorem dX4_volumeOfRow_17 : decode cX4_volumeOfRow 17 = .ok (.aload_n 0, 1) := by decide +kernel
theorem dX4_volumeOfRow_18 : decode cX4_volumeOfRow 18 = .ok (.iload_n 1, 1) := by decide +kernel
theorem dX4_volumeOfRow_19 : decode cX4_volumeOfRow 19 = .ok (.iload_n 3, 1) := by decide +kernel
theorem dX4_volumeOfRow_20 : decode cX4_volumeOfRow 20 = .ok (.invokevirtual 53, 3) := by decide +kernel
theorem dX4_volumeOfRow_23 : decode cX4_volumeOfRow 23 = .ok (.invokestatic 61, 3) := by decide +kernel
theorem dX4_volumeOfRow_26 : decode cX4_volumeOfRow 26 = .ok (.iadd, 1) := by decide +kernel
theorem dX4_volumeOfRow_27 : decode cX4_volumeOfRow 27 = .ok (.istore_n 2, 1) := by decide +kernel
theorem dX4_volumeOfRow_28 : decode cX4_volumeOfRow 28 = .ok (.iinc 3 1, 3) := by decide +kernel
theorem dX4_volumeOfRow_31 : decode cX4_volumeOfRow 31 = .ok (.goto (-27), 3) := by decide +kernel
theorem dX4_volumeOfRow_34 : decode cX4_volumeOfRow 34 = .ok (.iload_n 2, 1) := by decide +kernel
theorem dX4_volumeOfRow_35 : decode cX4_volumeOfRow 35 = .ok (.ireturn, 1) := by decide +kernel
theorem dX4_masks_0 : decode cX4_masks 0 = .ok (.aload_n 0, 1) := by decide +kernel
theorem dX4_masks_1 : decode cX4_masks 1 = .ok (.getfield 26, 3) := by decide +kernel
theorem dX4_masks_4 : decode cX4_masks 4 = .ok (.iload_n 1, 1) := by decide +kernel
theorem dX4_masks_5 : decode cX4_masks 5 = .ok (.ishr, 1) := by decide +kernel
theorem dX4_masks_6 : decode cX4_masks 6 = .ok (.iconst 1, 1) := by decide +kernel
theorem dX4_masks_7 : decode cX4_masks 7 = .ok (.iand, 1) := by decide +kernel
theorem dX4_masks_8 : decode cX4_masks 8 = .ok (.ifCond .eq 7, 3) := by decide +kernel
theorem dX4_masks_11 : decode cX4_masks 11 = .ok (.iconst 1, 1) := by decide +kernel
theorem dX4_masks_12 : decode cX4_masks 12 = .ok (.goto 4, 3) := by decide +kernel
theorem dX4_masks_15 : decode cX4_masks 15 = .ok (.iconst 0, 1) := by decide +kernel
theorem dX4_masks_16 : decode cX4_masks 16 = .ok (.ireturn, 1) := by decide +kernel
theorem dX4_putMask_0 : decode cX4_putMask 0 = .ok (.aload_n 0, 1) := by decide +kernel
theorem dX4_putMask_1 : decode cX4_putMask 1 = .ok (.iload_n 2, 1) := by decide +kernel
theorem dX4_putMask_2 : decode cX4_putMask 2 = .ok (.ifCond .eq 14, 3) := by decide +kernel
theorem dX4_putMask_5 : decode cX4_putMask 5 = .ok (.aload_n 0, 1) := by decide +kernel
theorem dX4_putMask_6 : decode cX4_putMask 6 = .ok (.getfield 26, 3) := by decide +kernel
theorem dX4_putMask_9 : decode cX4_putMask 9 = .ok (.iconst 1, 1) := by decide +kernel
theorem dX4_putMask_10 : decode cX4_putMask 10 = .ok (.iload_n 1, 1) := by decide +kernel
theorem dX4_putMask_11 : decode cX4_putMask 11 = .ok (.ishl, 1) := by decide +kernel
theorem dX4_putMask_12 : decode cX4_putMask 12 = .ok (.ior, 1) := by decide +kernel
theorem dX4_putMask_13 : decode cX4_putMask 13 = .ok (.goto 13, 3) := by decide +kernel
theorem dX4_putMask_16 : decode cX4_putMask 16 = .ok (.aload_n 0, 1) := by decide +kernel
theorem dX4_putMask_17 : decode cX4_putMask 17 = .ok (.getfield 26, 3) := by decide +kernel
theorem dX4_putMask_20 : decode cX4_putMask 20 = .ok (.iconst 1, 1) := by decide +kernel
theorem dX4_putMask_21 : decode cX4_putMask 21 = .ok (.iload_n 1, 1) := by decide +kernel
theorem dX4_putMask_22 : decode cX4_putMask 22 = .ok (.ishl, 1) := by decide +kernel
theorem dX4_putMask_23 : decode cX4_putMask 23 = .ok (.iconst (-1), 1) := by decide +kernel
theorem dX4_putMask_24 : decode cX4_putMask 24 = .ok (.ixor, 1) := by decide +kernel
theorem dX4_putMask_25 : decode cX4_putMask 25 = .ok (.iand, 1) := by decide +kernel
theorem dX4_putMask_26 : decode cX4_putMask 26 = .ok (.putfield 26, 3) := by decide +kernel
theorem dX4_putMask_29 : decode cX4_putMask 29 = .ok (.return_, 1) := by decide +kernel
theorem dX4_maskedColumns_0 : decode cX4_maskedColumns 0 = .ok (.iconst 0, 1) := by decide +kernel
theorem dX4_maskedColumns_1 : decode cX4_maskedColumns 1 = .ok (.istore_n 1, 1) := by decide +kernel
theorem dX4_maskedColumns_2 : decode cX4_maskedColumns 2 = .ok (.iconst 0, 1) := by decide +kernel
theorem dX4_maskedColumns_3 : decode cX4_maskedColumns 3 = .ok (.istore_n 2, 1) := by decide +kernel
theorem dX4_maskedColumns_4 : decode cX4_maskedColumns 4 = .ok (.iload_n 2, 1) := by decide +kernel
theorem dX4_maskedColumns_5 : decode cX4_maskedColumns 5 = .ok (.aload_n 0, 1) := by decide +kernel
theorem dX4_maskedColumns_6 : decode cX4_maskedColumns 6 = .ok (.getfield 19, 3) := by decide +kernel
theorem dX4_maskedColumns_9 : decode cX4_maskedColumns 9 = .ok (.if_icmp .ge 20, 3) := by decide +kernel
theorem dX4_maskedColumns_12 : decode cX4_maskedColumns 12 = .ok (.aload_n 0, 1) := by decide +kernel
theorem dX4_maskedColumns_13 : decode cX4_maskedColumns 13 = .ok (.iload_n 2, 1) := by decide +kernel
theorem dX4_maskedColumns_14 : decode cX4_maskedColumns 14 = .ok (.invokevirtual 65, 3) := by decide +kernel
theorem dX4_maskedColumns_17 : decode cX4_maskedColumns 17 = .ok (.ifCond .eq 6, 3) := by decide +kernel
theorem dX4_maskedColumns_20 : decode cX4_maskedColumns 20 = .ok (.iinc 1 1, 3) := by decide +kernel
theorem dX4_maskedColumns_23 : decode cX4_maskedColumns 23 = .ok (.iinc 2 1, 3) := by decide +kernel
theorem dX4_maskedColumns_26 : decode cX4_maskedColumns 26 = .ok (.goto (-22), 3) := by decide +kernel
theorem dX4_maskedColumns_29 : decode cX4_maskedColumns 29 = .ok (.iload_n 1, 1) := by decide +kernel
theorem dX4_maskedColumns_30 : decode cX4_maskedColumns 30 = .ok (.ireturn, 1) := by decide +kernel
theorem dX4_columnIn_0 : decode cX4_columnIn 0 = .ok (.aload_n 0, 1) := by decide +kernel
theorem dX4_columnIn_1 : decode cX4_columnIn 1 = .ok (.getfield 19, 3) := by decide +kernel
theorem dX4_columnIn_4 : decode cX4_columnIn 4 = .ok (.ifCond .le 12, 3) := by decide +kernel
theorem dX4_columnIn_7 : decode cX4_columnIn 7 = .ok (.iload_n 1, 1) := by decide +kernel
theorem dX4_columnIn_8 : decode cX4_columnIn 8 = .ok (.aload_n 0, 1) := by decide +kernel
theorem dX4_columnIn_9 : decode cX4_columnIn 9 = .ok (.getfield 19, 3) := by decide +kernel
theorem dX4_columnIn_12 : decode cX4_columnIn 12 = .ok (.irem, 1) := by decide +kernel
theorem dX4_columnIn_13 : decode cX4_columnIn 13 = .ok (.goto 4, 3) := by decide +kernel
theorem dX4_columnIn_16 : decode cX4_columnIn 16 = .ok (.iconst 0, 1) := by decide +kernel
theorem dX4_columnIn_17 : decode cX4_columnIn 17 = .ok (.ireturn, 1) := by decide +kernel
theorem dX4_volumeIn_0 : decode cX4_volumeIn 0 = .ok (.aload_n 0, 1) := by decide +kernel
theorem dX4_volumeIn_1 : decode cX4_volumeIn 1 = .ok (.iload_n 1, 1) := by decide +kernel
theorem dX4_volumeIn_2 : decode cX4_volumeIn 2 = .ok (.invokevirtual 68, 3) := by decide +kernel
theorem dX4_volumeIn_5 : decode cX4_volumeIn 5 = .ok (.istore_n 2, 1) := by decide +kernel
theorem dX4_volumeIn_6 : decode cX4_volumeIn 6 = .ok (.aload_n 0, 1) := by decide +kernel
theorem dX4_volumeIn_7 : decode cX4_volumeIn 7 = .ok (.getfield 32, 3) := by decide +kernel
theorem dX4_volumeIn_10 : decode cX4_volumeIn 10 = .ok (.ifCond .gt 11, 3) := by decide +kernel
theorem dX4_volumeIn_13 : decode cX4_volumeIn 13 = .ok (.aload_n 0, 1) := by decide +kernel
theorem dX4_volumeIn_14 : decode cX4_volumeIn 14 = .ok (.iload_n 2, 1) := by decide +kernel
theorem dX4_volumeIn_15 : decode cX4_volumeIn 15 = .ok (.invokevirtual 65, 3) := by decide +kernel
theorem dX4_volumeIn_18 : decode cX4_volumeIn 18 = .ok (.ifCond .eq 7, 3) := by decide +kernel
theorem dX4_volumeIn_21 : decode cX4_volumeIn 21 = .ok (.iconst 0, 1) := by decide +kernel
theorem dX4_volumeIn_22 : decode cX4_volumeIn 22 = .ok (.goto 8, 3) := by decide +kernel
theorem dX4_volumeIn_25 : decode cX4_volumeIn 25 = .ok (.aload_n 0, 1) := by decide +kernel
theorem dX4_volumeIn_26 : decode cX4_volumeIn 26 = .ok (.iload_n 2, 1) := by decide +kernel
theorem dX4_volumeIn_27 : decode cX4_volumeIn 27 = .ok (.invokevirtual 72, 3) := by decide +kernel
theorem dX4_volumeIn_30 : decode cX4_volumeIn 30 = .ok (.ireturn, 1) := by decide +kernel
theorem dX4_tire_0 : decode cX4_tire 0 = .ok (.aload_n 0, 1) := by decide +kernel
theorem dX4_tire_1 : decode cX4_tire 1 = .ok (.dup, 1) := by decide +kernel
theorem dX4_tire_2 : decode cX4_tire 2 = .ok (.getfield 29, 3) := by decide +kernel
theorem dX4_tire_5 : decode cX4_tire 5 = .ok (.iconst 1, 1) := by decide +kernel
theorem dX4_tire_6 : decode cX4_tire 6 = .ok (.iadd, 1) := by decide +kernel
theorem dX4_tire_7 : decode cX4_tire 7 = .ok (.putfield 29, 3) := by decide +kernel
theorem dX4_tire_10 : decode cX4_tire 10 = .ok (.aload_n 0, 1) := by decide +kernel
theorem dX4_tire_11 : decode cX4_tire 11 = .ok (.getfield 29, 3) := by decide +kernel
theorem dX4_tire_14 : decode cX4_tire 14 = .ok (.iconst 3, 1) := by decide +kernel
theorem dX4_tire_15 : decode cX4_tire 15 = .ok (.if_icmp .ne 13, 3) := by decide +kernel
theorem dX4_tire_18 : decode cX4_tire 18 = .ok (.aload_n 0, 1) := by decide +kernel
theorem dX4_tire_19 : decode cX4_tire 19 = .ok (.iconst 0, 1) := by decide +kernel
theorem dX4_tire_20 : decode cX4_tire 20 = .ok (.putfield 29, 3) := by decide +kernel
theorem dX4_tire_23 : decode cX4_tire 23 = .ok (.aload_n 0, 1) := by decide +kernel
theorem dX4_tire_24 : decode cX4_tire 24 = .ok (.iconst 2, 1) := by decide +kernel
theorem dX4_tire_25 : decode cX4_tire 25 = .ok (.putfield 32, 3) := by decide +kernel
theorem dX4_tire_28 : decode cX4_tire 28 = .ok (.return_, 1) := by decide +kernel
theorem dX5_init_0 : decode cX5_init 0 = .ok (.aload_n 0, 1) := by decide +kernel
theorem dX5_init_1 : decode cX5_init 1 = .ok (.invokespecial 3, 3) := by decide +kernel
theorem dX5_init_4 : decode cX5_init 4 = .ok (.aload_n 0, 1) := by decide +kernel
theorem dX5_init_5 : decode cX5_init 5 = .ok (.iconst 5, 1) := by decide +kernel
theorem dX5_init_6 : decode cX5_init 6 = .ok (.anewarray 9, 3) := by decide +kernel
theorem dX5_init_9 : decode cX5_init 9 = .ok (.putfield 11, 3) := by decide +kernel
theorem dX5_init_12 : decode cX5_init 12 = .ok (.aload_n 0, 1) := by decide +kernel
theorem dX5_init_13 : decode cX5_init 13 = .ok (.iconst 0, 1) := by decide +kernel
theorem dX5_init_14 : decode cX5_init 14 = .ok (.putfield 17, 3) := by decide +kernel
theorem dX5_init_17 : decode cX5_init 17 = .ok (.aload_n 0, 1) := by decide +kernel
theorem dX5_init_18 : decode cX5_init 18 = .ok (.iconst 2, 1) := by decide +kernel
theorem dX5_init_19 : decode cX5_init 19 = .ok (.putfield 21, 3) := by decide +kernel
theorem dX5_init_22 : decode cX5_init 22 = .ok (.aload_n 0, 1) := by decide +kernel
theorem dX5_init_23 : decode cX5_init 23 = .ok (.bipush 30, 2) := by decide +kernel
theorem dX5_init_25 : decode cX5_init 25 = .ok (.putfield 24, 3) := by decide +kernel
theorem dX5_init_28 : decode cX5_init 28 = .ok (.aload_n 0, 1) := by decide +kernel
theorem dX5_init_29 : decode cX5_init 29 = .ok (.iconst 0, 1) := by decide +kernel
theorem dX5_init_30 : decode cX5_init 30 = .ok (.putfield 27, 3) := by decide +kernel
theorem dX5_init_33 : decode cX5_init 33 = .ok (.aload_n 0, 1) := by decide +kernel
theorem dX5_init_34 : decode cX5_init 34 = .ok (.iconst 0, 1) := by decide +kernel
theorem dX5_init_35 : decode cX5_init 35 = .ok (.putfield 30, 3) := by decide +kernel
theorem dX5_init_38 : decode cX5_init 38 = .ok (.aload_n 0, 1) := by decide +kernel
theorem dX5_init_39 : decode cX5_init 39 = .ok (.iconst 0, 1) := by decide +kernel
theorem dX5_init_40 : decode cX5_init 40 = .ok (.putfield 33, 3) := by decide +kernel
theorem dX5_init_43 : decode cX5_init 43 = .ok (.aload_n 0, 1) := by decide +kernel
theorem dX5_init_44 : decode cX5_init 44 = .ok (.lconst 0, 1) := by decide +kernel
theorem dX5_init_45 : decode cX5_init 45 = .ok (.putfield 36, 3) := by decide +kernel
theorem dX5_init_48 : decode cX5_init 48 = .ok (.aload_n 0, 1) := by decide +kernel
theorem dX5_init_49 : decode cX5_init 49 = .ok (.bipush 30, 2) := by decide +kernel
theorem dX5_init_51 : decode cX5_init 51 = .ok (.newarray .int, 2) := by decide +kernel
theorem dX5_init_53 : decode cX5_init 53 = .ok (.putfield 40, 3) := by decide +kernel
theorem dX5_init_56 : decode cX5_init 56 = .ok (.aload_n 0, 1) := by decide +kernel
theorem dX5_init_57 : decode cX5_init 57 = .ok (.bipush 10, 2) := by decide +kernel
theorem dX5_init_59 : decode cX5_init 59 = .ok (.newarray .int, 2) := by decide +kernel
theorem dX5_init_61 : decode cX5_init 61 = .ok (.putfield 44, 3) := by decide +kernel
theorem dX5_init_64 : decode cX5_init 64 = .ok (.iconst 0, 1) := by decide +kernel
theorem dX5_init_65 : decode cX5_init 65 = .ok (.istore_n 1, 1) := by decide +kernel
theorem dX5_init_66 : decode cX5_init 66 = .ok (.iload_n 1, 1) := by decide +kernel
theorem dX5_init_67 : decode cX5_init 67 = .ok (.aload_n 0, 1) := by decide +kernel
theorem dX5_init_68 : decode cX5_init 68 = .ok (.getfield 11, 3) := by decide +kernel
theorem dX5_init_71 : decode cX5_init 71 = .ok (.arraylength, 1) := by decide +kernel
theorem dX5_init_72 : decode cX5_init 72 = .ok (.if_icmp .ge 22, 3) := by decide +kernel
theorem dX5_init_75 : decode cX5_init 75 = .ok (.aload_n 0, 1) := by decide +kernel
theorem dX5_init_76 : decode cX5_init 76 = .ok (.getfield 11, 3) := by decide +kernel
theorem dX5_init_79 : decode cX5_init 79 = .ok (.iload_n 1, 1) := by decide +kernel
theorem dX5_init_80 : decode cX5_init 80 = .ok (.new 9, 3) := by decide +kernel
theorem dX5_init_83 : decode cX5_init 83 = .ok (.dup, 1) := by decide +kernel
theorem dX5_init_84 : decode cX5_init 84 = .ok (.invokespecial 47, 3) := by decide +kernel
theorem dX5_init_87 : decode cX5_init 87 = .ok (.aastore, 1) := by decide +kernel
theorem dX5_init_88 : decode cX5_init 88 = .ok (.iinc 1 1, 3) := by decide +kernel
theorem dX5_init_91 : decode cX5_init 91 = .ok (.goto (-25), 3) := by decide +kernel
theorem dX5_init_94 : decode cX5_init 94 = .ok (.return_, 1) := by decide +kernel
theorem dX5_copyFrom_0 : decode cX5_copyFrom 0 = .ok (.iconst 0, 1) := by decide +kernel
theorem dX5_copyFrom_1 : decode cX5_copyFrom 1 = .ok (.istore_n 2, 1) := by decide +kernel
theorem dX5_copyFrom_2 : decode cX5_copyFrom 2 = .ok (.iload_n 2, 1) := by decide +kernel
theorem dX5_copyFrom_3 : decode cX5_copyFrom 3 = .ok (.aload_n 0, 1) := by decide +kernel
theorem dX5_copyFrom_4 : decode cX5_copyFrom 4 = .ok (.getfield 11, 3) := by decide +kernel
theorem dX5_copyFrom_7 : decode cX5_copyFrom 7 = .ok (.arraylength, 1) := by decide +kernel
theorem dX5_copyFrom_8 : decode cX5_copyFrom 8 = .ok (.if_icmp .ge 33, 3) := by decide +kernel
theorem dX5_copyFrom_11 : decode cX5_copyFrom 11 = .ok (.iload_n 2, 1) := by decide +kernel
theorem dX5_copyFrom_12 : decode cX5_copyFrom 12 = .ok (.aload_n 1, 1) := by decide +kernel
theorem dX5_copyFrom_13 : decode cX5_copyFrom 13 = .ok (.getfield 11, 3) := by decide +kernel
theorem dX5_copyFrom_16 : decode cX5_copyFrom 16 = .ok (.arraylength, 1) := by decide +kernel
theorem dX5_copyFrom_17 : decode cX5_copyFrom 17 = .ok (.if_icmp .ge 24, 3) := by decide +kernel
theorem dX5_copyFrom_20 : decode cX5_copyFrom 20 = .ok (.aload_n 0, 1) := by decide +kernel
theorem dX5_copyFrom_21 : decode cX5_copyFrom 21 = .ok (.getfield 11, 3) := by decide +kernel
theorem dX5_copyFrom_24 : decode cX5_copyFrom 24 = .ok (.iload_n 2, 1) := by decide +kernel
theorem dX5_copyFrom_25 : decode cX5_copyFrom 25 = .ok (.aaload, 1) := by decide +kernel
theorem dX5_copyFrom_26 : decode cX5_copyFrom 26 = .ok (.aload_n 1, 1) := by decide +kernel
theorem dX5_copyFrom_27 : decode cX5_copyFrom 27 = .ok (.getfield 11, 3) := by decide +kernel
theorem dX5_copyFrom_30 : decode cX5_copyFrom 30 = .ok (.iload_n 2, 1) := by decide +kernel
theorem dX5_copyFrom_31 : decode cX5_copyFrom 31 = .ok (.aaload, 1) := by decide +kernel
theorem dX5_copyFrom_32 : decode cX5_copyFrom 32 = .ok (.invokevirtual 48, 3) := by decide +kernel
theorem dX5_copyFrom_35 : decode cX5_copyFrom 35 = .ok (.iinc 2 1, 3) := by decide +kernel
theorem dX5_copyFrom_38 : decode cX5_copyFrom 38 = .ok (.goto (-36), 3) := by decide +kernel
theorem dX5_copyFrom_41 : decode cX5_copyFrom 41 = .ok (.aload_n 0, 1) := by decide +kernel
theorem dX5_copyFrom_42 : decode cX5_copyFrom 42 = .ok (.aload_n 1, 1) := by decide +kernel
theorem dX5_copyFrom_43 : decode cX5_copyFrom 43 = .ok (.getfield 17, 3) := by decide +kernel
theorem dX5_copyFrom_46 : decode cX5_copyFrom 46 = .ok (.putfield 17, 3) := by decide +kernel
theorem dX5_copyFrom_49 : decode cX5_copyFrom 49 = .ok (.aload_n 0, 1) := by decide +kernel
theorem dX5_copyFrom_50 : decode cX5_copyFrom 50 = .ok (.aload_n 1, 1) := by decide +kernel
theorem dX5_copyFrom_51 : decode cX5_copyFrom 51 = .ok (.getfield 21, 3) := by decide +kernel
theorem dX5_copyFrom_54 : decode cX5_copyFrom 54 = .ok (.putfield 21, 3) := by decide +kernel
theorem dX5_copyFrom_57 : decode cX5_copyFrom 57 = .ok (.aload_n 0, 1) := by decide +kernel
theorem dX5_copyFrom_58 : decode cX5_copyFrom 58 = .ok (.aload_n 1, 1) := by decide +kernel
theorem dX5_copyFrom_59 : decode cX5_copyFrom 59 = .ok (.getfield 24, 3) := by decide +kernel
theorem dX5_copyFrom_62 : decode cX5_copyFrom 62 = .ok (.putfield 24, 3) := by decide +kernel
theorem dX5_copyFrom_65 : decode cX5_copyFrom 65 = .ok (.aload_n 0, 1) := by decide +kernel
theorem dX5_copyFrom_66 : decode cX5_copyFrom 66 = .ok (.aload_n 1, 1) := by decide +kernel
theorem dX5_copyFrom_67 : decode cX5_copyFrom 67 = .ok (.getfield 27, 3) := by decide +kernel
theorem dX5_copyFrom_70 : decode cX5_copyFrom 70 = .ok (.putfield 27, 3) := by decide +kernel
theorem dX5_copyFrom_73 : decode cX5_copyFrom 73 = .ok (.aload_n 0, 1) := by decide +kernel
theorem dX5_copyFrom_74 : decode cX5_copyFrom 74 = .ok (.aload_n 1, 1) := by decide +kernel
theorem dX5_copyFrom_75 : decode cX5_copyFrom 75 = .ok (.getfield 30, 3) := by decide +kernel
theorem dX5_copyFrom_78 : decode cX5_copyFrom 78 = .ok (.putfield 30, 3) := by decide +kernel
theorem dX5_copyFrom_81 : decode cX5_copyFrom 81 = .ok (.aload_n 0, 1) := by decide +kernel
theorem dX5_copyFrom_82 : decode cX5_copyFrom 82 = .ok (.aload_n 1, 1) := by decide +kernel
theorem dX5_copyFrom_83 : decode cX5_copyFrom 83 = .ok (.getfield 33, 3) := by decide +kernel
theorem dX5_copyFrom_86 : decode cX5_copyFrom 86 = .ok (.putfield 33, 3) := by decide +kernel
theorem dX5_copyFrom_89 : decode cX5_copyFrom 89 = .ok (.aload_n 0, 1) := by decide +kernel
theorem dX5_copyFrom_90 : decode cX5_copyFrom 90 = .ok (.aload_n 1, 1) := by decide +kernel
theorem dX5_copyFrom_91 : decode cX5_copyFrom 91 = .ok (.getfield 36, 3) := by decide +kernel
theorem dX5_copyFrom_94 : decode cX5_copyFrom 94 = .ok (.putfield 36, 3) := by decide +kernel
theorem dX5_copyFrom_97 : decode cX5_copyFrom 97 = .ok (.aload_n 1, 1) := by decide +kernel
theorem dX5_copyFrom_98 : decode cX5_copyFrom 98 = .ok (.getfield 40, 3) := by decide +kernel
theorem dX5_copyFrom_101 : decode cX5_copyFrom 101 = .ok (.aload_n 0, 1) := by decide +kernel
theorem dX5_copyFrom_102 : decode cX5_copyFrom 102 = .ok (.getfield 40, 3) := by decide +kernel
theorem dX5_copyFrom_105 : decode cX5_copyFrom 105 = .ok (.invokestatic 52, 3) := by decide +kernel
theorem dX5_copyFrom_108 : decode cX5_copyFrom 108 = .ok (.aload_n 1, 1) := by decide +kernel
theorem dX5_copyFrom_109 : decode cX5_copyFrom 109 = .ok (.getfield 44, 3) := by decide +kernel
theorem dX5_copyFrom_112 : decode cX5_copyFrom 112 = .ok (.aload_n 0, 1) := by decide +kernel
theorem dX5_copyFrom_113 : decode cX5_copyFrom 113 = .ok (.getfield 44, 3) := by decide +kernel
theorem dX5_copyFrom_116 : decode cX5_copyFrom 116 = .ok (.invokestatic 52, 3) := by decide +kernel
theorem dX5_copyFrom_119 : decode cX5_copyFrom 119 = .ok (.return_, 1) := by decide +kernel
theorem dX5_hasSection_0 : decode cX5_hasSection 0 = .ok (.iload_n 1, 1) := by decide +kernel
theorem dX5_hasSection_1 : decode cX5_hasSection 1 = .ok (.ifCond .lt 24, 3) := by decide +kernel
theorem dX5_hasSection_4 : decode cX5_hasSection 4 = .ok (.iload_n 1, 1) := by decide +kernel
theorem dX5_hasSection_5 : decode cX5_hasSection 5 = .ok (.aload_n 0, 1) := by decide +kernel
theorem dX5_hasSection_6 : decode cX5_hasSection 6 = .ok (.getfield 17, 3) := by decide +kernel
theorem dX5_hasSection_9 : decode cX5_hasSection 9 = .ok (.if_icmp .ge 16, 3) := by decide +kernel
theorem dX5_hasSection_12 : decode cX5_hasSection 12 = .ok (.iload_n 1, 1) := by decide +kernel
theorem dX5_hasSection_13 : decode cX5_hasSection 13 = .ok (.aload_n 0, 1) := by decide +kernel
theorem dX5_hasSection_14 : decode cX5_hasSection 14 = .ok (.getfield 11, 3) := by decide +kernel
theorem dX5_hasSection_17 : decode cX5_hasSection 17 = .ok (.arraylength, 1) := by decide +kernel
theorem dX5_hasSection_18 : decode cX5_hasSection 18 = .ok (.if_icmp .ge 7, 3) := by decide +kernel
theorem dX5_hasSection_21 : decode cX5_hasSection 21 = .ok (.iconst 1, 1) := by decide +kernel
theorem dX5_hasSection_22 : decode cX5_hasSection 22 = .ok (.goto 4, 3) := by decide +kernel
theorem dX5_hasSection_25 : decode cX5_hasSection 25 = .ok (.iconst 0, 1) := by decide +kernel
theorem dX5_hasSection_26 : decode cX5_hasSection 26 = .ok (.ireturn, 1) := by decide +kernel
theorem dX5_add_0 : decode cX5_add 0 = .ok (.iload_n 1, 1) := by decide +kernel
theorem dX5_add_1 : decode cX5_add 1 = .ok (.invokestatic 56, 3) := by decide +kernel
theorem dX5_add_4 : decode cX5_add 4 = .ok (.ifCond .lt 17, 3) := by decide +kernel
theorem dX5_add_7 : decode cX5_add 7 = .ok (.iload_n 2, 1) := by decide +kernel
theorem dX5_add_8 : decode cX5_add 8 = .ok (.invokestatic 60, 3) := by decide +kernel
theorem dX5_add_11 : decode cX5_add 11 = .ok (.ifCond .eq 10, 3) := by decide +kernel
theorem dX5_add_14 : decode cX5_add 14 = .ok (.iload_n 3, 1) := by decide +kernel
theorem dX5_add_15 : decode cX5_add 15 = .ok (.invokestatic 60, 3) := by decide +kernel
theorem dX5_add_18 : decode cX5_add 18 = .ok (.ifCond .ne 6, 3) := by decide +kernel
theorem dX5_add_21 : decode cX5_add 21 = .ok (.bipush (-2), 2) := by decide +kernel
theorem dX5_add_23 : decode cX5_add 23 = .ok (.ireturn, 1) := by decide +kernel
theorem dX5_add_24 : decode cX5_add 24 = .ok (.aload_n 0, 1) := by decide +kernel
theorem dX5_add_25 : decode cX5_add 25 = .ok (.getfield 17, 3) := by decide +kernel
theorem dX5_add_28 : decode cX5_add 28 = .ok (.ifCond .lt 15, 3) := by decide +kernel
theorem dX5_add_31 : decode cX5_add 31 = .ok (.aload_n 0, 1) := by decide +kernel
theorem dX5_add_32 : decode cX5_add 32 = .ok (.getfield 17, 3) := by decide +kernel
theorem dX5_add_35 : decode cX5_add 35 = .ok (.aload_n 0, 1) := by decide +kernel
theorem dX5_add_36 : decode cX5_add 36 = .ok (.getfield 11, 3) := by decide +kernel
theorem dX5_add_39 : decode cX5_add 39 = .ok (.arraylength, 1) := by decide +kernel
theorem dX5_add_40 : decode cX5_add 40 = .ok (.if_icmp .lt 6, 3) := by decide +kernel
theorem dX5_add_43 : decode cX5_add 43 = .ok (.bipush (-3), 2) := by decide +kernel
theorem dX5_add_45 : decode cX5_add 45 = .ok (.ireturn, 1) := by decide +kernel
theorem dX5_add_46 : decode cX5_add 46 = .ok (.aload_n 0, 1) := by decide +kernel
theorem dX5_add_47 : decode cX5_add 47 = .ok (.getfield 11, 3) := by decide +kernel
theorem dX5_add_50 : decode cX5_add 50 = .ok (.aload_n 0, 1) := by decide +kernel
theorem dX5_add_51 : decode cX5_add 51 = .ok (.getfield 17, 3) := by decide +kernel
theorem dX5_add_54 : decode cX5_add 54 = .ok (.aaload, 1) := by decide +kernel
theorem dX5_add_55 : decode cX5_add 55 = .ok (.iload_n 1, 1) := by decide +kernel
theorem dX5_add_56 : decode cX5_add 56 = .ok (.iload_n 2, 1) := by decide +kernel
theorem dX5_add_57 : decode cX5_add 57 = .ok (.iload_n 3, 1) := by decide +kernel
theorem dX5_add_58 : decode cX5_add 58 = .ok (.invokevirtual 64, 3) := by decide +kernel
theorem dX5_add_61 : decode cX5_add 61 = .ok (.aload_n 0, 1) := by decide +kernel
theorem dX5_add_62 : decode cX5_add 62 = .ok (.dup, 1) := by decide +kernel
theorem dX5_add_63 : decode cX5_add 63 = .ok (.getfield 17, 3) := by decide +kernel
theorem dX5_add_66 : decode cX5_add 66 = .ok (.iconst 1, 1) := by decide +kernel
theorem dX5_add_67 : decode cX5_add 67 = .ok (.iadd, 1) := by decide +kernel
theorem dX5_add_68 : decode cX5_add 68 = .ok (.putfield 17, 3) := by decide +kernel
theorem dX5_add_71 : decode cX5_add 71 = .ok (.aload_n 0, 1) := by decide +kernel
theorem dX5_add_72 : decode cX5_add 72 = .ok (.getfield 17, 3) := by decide +kernel
theorem dX5_add_75 : decode cX5_add 75 = .ok (.iconst 1, 1) := by decide +kernel
theorem dX5_add_76 : decode cX5_add 76 = .ok (.isub, 1) := by decide +kernel
theorem dX5_add_77 : decode cX5_add 77 = .ok (.ireturn, 1) := by decide +kernel
theorem dX5_drop_0 : decode cX5_drop 0 = .ok (.aload_n 0, 1) := by decide +kernel
theorem dX5_drop_1 : decode cX5_drop 1 = .ok (.iload_n 1, 1) := by decide +kernel
theorem dX5_drop_2 : decode cX5_drop 2 = .ok (.invokevirtual 68, 3) := by decide +kernel
theorem dX5_drop_5 : decode cX5_drop 5 = .ok (.ifCond .ne 5, 3) := by decide +kernel
theorem dX5_drop_8 : decode cX5_drop 8 = .ok (.iconst (-1), 1) := by decide +kernel
theorem dX5_drop_9 : decode cX5_drop 9 = .ok (.ireturn, 1) := by decide +kernel
theorem dX5_drop_10 : decode cX5_drop 10 = .ok (.aload_n 0, 1) := by decide +kernel
theorem dX5_drop_11 : decode cX5_drop 11 = .ok (.getfield 11, 3) := by decide +kernel
theorem dX5_drop_14 : decode cX5_drop 14 = .ok (.iload_n 1, 1) := by decide +kernel
theorem dX5_drop_15 : decode cX5_drop 15 = .ok (.aaload, 1) := by decide +kernel
theorem dX5_drop_16 : decode cX5_drop 16 = .ok (.astore_n 2, 1) := by decide +kernel
theorem dX5_drop_17 : decode cX5_drop 17 = .ok (.iload_n 1, 1) := by decide +kernel
theorem dX5_drop_18 : decode cX5_drop 18 = .ok (.istore_n 3, 1) := by decide +kernel
theorem dX5_drop_19 : decode cX5_drop 19 = .ok (.iload_n 3, 1) := by decide +kernel
theorem dX5_drop_20 : decode cX5_drop 20 = .ok (.iconst 1, 1) := by decide +kernel
theorem dX5_drop_21 : decode cX5_drop 21 = .ok (.iadd, 1) := by decide +kernel
theorem dX5_drop_22 : decode cX5_drop 22 = .ok (.aload_n 0, 1) := by decide +kernel
theorem dX5_drop_23 : decode cX5_drop 23 = .ok (.getfield 11, 3) := by decide +kernel
theorem dX5_drop_26 : decode cX5_drop 26 = .ok (.arraylength, 1) := by decide +kernel
theorem dX5_drop_27 : decode cX5_drop 27 = .ok (.if_icmp .ge 23, 3) := by decide +kernel
theorem dX5_drop_30 : decode cX5_drop 30 = .ok (.aload_n 0, 1) := by decide +kernel
theorem dX5_drop_31 : decode cX5_drop 31 = .ok (.getfield 11, 3) := by decide +kernel
theorem dX5_drop_34 : decode cX5_drop 34 = .ok (.iload_n 3, 1) := by decide +kernel
theorem dX5_drop_35 : decode cX5_drop 35 = .ok (.aload_n 0, 1) := by decide +kernel
theorem dX5_drop_36 : decode cX5_drop 36 = .ok (.getfield 11, 3) := by decide +kernel
theorem dX5_drop_39 : decode cX5_drop 39 = .ok (.iload_n 3, 1) := by decide +kernel
theorem dX5_drop_40 : decode cX5_drop 40 = .ok (.iconst 1, 1) := by decide +kernel
theorem dX5_drop_41 : decode cX5_drop 41 = .ok (.iadd, 1) := by decide +kernel
theorem dX5_drop_42 : decode cX5_drop 42 = .ok (.aaload, 1) := by decide +kernel
theorem dX5_drop_43 : decode cX5_drop 43 = .ok (.aastore, 1) := by decide +kernel
theorem dX5_drop_44 : decode cX5_drop 44 = .ok (.iinc 3 1, 3) := by decide +kernel
theorem dX5_drop_47 : decode cX5_drop 47 = .ok (.goto (-28), 3) := by decide +kernel
theorem dX5_drop_50 : decode cX5_drop 50 = .ok (.aload_n 0, 1) := by decide +kernel
theorem dX5_drop_51 : decode cX5_drop 51 = .ok (.getfield 11, 3) := by decide +kernel
theorem dX5_drop_54 : decode cX5_drop 54 = .ok (.aload_n 0, 1) := by decide +kernel
theorem dX5_drop_55 : decode cX5_drop 55 = .ok (.getfield 11, 3) := by decide +kernel
theorem dX5_drop_58 : decode cX5_drop 58 = .ok (.arraylength, 1) := by decide +kernel
theorem dX5_drop_59 : decode cX5_drop 59 = .ok (.iconst 1, 1) := by decide +kernel
theorem dX5_drop_60 : decode cX5_drop 60 = .ok (.isub, 1) := by decide +kernel
theorem dX5_drop_61 : decode cX5_drop 61 = .ok (.aload_n 2, 1) := by decide +kernel
theorem dX5_drop_62 : decode cX5_drop 62 = .ok (.aastore, 1) := by decide +kernel
theorem dX5_drop_63 : decode cX5_drop 63 = .ok (.aload_n 0, 1) := by decide +kernel
theorem dX5_drop_64 : decode cX5_drop 64 = .ok (.dup, 1) := by decide +kernel
theorem dX5_drop_65 : decode cX5_drop 65 = .ok (.getfield 17, 3) := by decide +kernel
theorem dX5_drop_68 : decode cX5_drop 68 = .ok (.iconst 1, 1) := by decide +kernel
theorem dX5_drop_69 : decode cX5_drop 69 = .ok (.isub, 1) := by decide +kernel
theorem dX5_drop_70 : decode cX5_drop 70 = .ok (.putfield 17, 3) := by decide +kernel
theorem dX5_drop_73 : decode cX5_drop 73 = .ok (.aload_n 0, 1) := by decide +kernel
theorem dX5_drop_74 : decode cX5_drop 74 = .ok (.getfield 17, 3) := by decide +kernel
theorem dX5_drop_77 : decode cX5_drop 77 = .ok (.ireturn, 1) := by decide +kernel
theorem dX5_write_0 : decode cX5_write 0 = .ok (.aload_n 0, 1) := by decide +kernel
theorem dX5_write_1 : decode cX5_write 1 = .ok (.iload_n 1, 1) := by decide +kernel
theorem dX5_write_2 : decode cX5_write 2 = .ok (.invokevirtual 68, 3) := by decide +kernel
theorem dX5_write_5 : decode cX5_write 5 = .ok (.ifCond .eq 17, 3) := by decide +kernel
theorem dX5_write_8 : decode cX5_write 8 = .ok (.aload_n 0, 1) := by decide +kernel
theorem dX5_write_9 : decode cX5_write 9 = .ok (.getfield 11, 3) := by decide +kernel
theorem dX5_write_12 : decode cX5_write 12 = .ok (.iload_n 1, 1) := by decide +kernel
theorem dX5_write_13 : decode cX5_write 13 = .ok (.aaload, 1) := by decide +kernel
theorem dX5_write_14 : decode cX5_write 14 = .ok (.iload_n 2, 1) := by decide +kernel
theorem dX5_write_15 : decode cX5_write 15 = .ok (.iload_n 3, 1) := by decide +kernel
theorem dX5_write_16 : decode cX5_write 16 = .ok (.invokevirtual 71, 3) := by decide +kernel
theorem dX5_write_19 : decode cX5_write 19 = .ok (.ifCond .ne 5, 3) := by decide +kernel
theorem dX5_write_22 : decode cX5_write 22 = .ok (.iconst (-1), 1) := by decide +kernel
theorem dX5_write_23 : decode cX5_write 23 = .ok (.ireturn, 1) := by decide +kernel
theorem dX5_write_24 : decode cX5_write 24 = .ok (.iload 4, 2) := by decide +kernel
theorem dX5_write_26 : decode cX5_write 26 = .ok (.ifCond .lt 10, 3) := by decide +kernel
theorem dX5_write_29 : decode cX5_write 29 = .ok (.iload 4, 2) := by decide +kernel
theorem dX5_write_31 : decode cX5_write 31 = .ok (.bipush 9, 2) := by decide +kernel
theorem dX5_write_33 : decode cX5_write 33 = .ok (.if_icmp .le 6, 3) := by decide +kernel
theorem dX5_write_36 : decode cX5_write 36 = .ok (.bipush (-2), 2) := by decide +kernel
theorem dX5_write_38 : decode cX5_write 38 = .ok (.ireturn, 1) := by decide +kernel
theorem dX5_write_39 : decode cX5_write 39 = .ok (.aload_n 0, 1) := by decide +kernel
theorem dX5_write_40 : decode cX5_write 40 = .ok (.getfield 11, 3) := by decide +kernel
theorem dX5_write_43 : decode cX5_write 43 = .ok (.iload_n 1, 1) := by decide +kernel
theorem dX5_write_44 : decode cX5_write 44 = .ok (.aaload, 1) := by decide +kernel
theorem dX5_write_45 : decode cX5_write 45 = .ok (.iload_n 2, 1) := by decide +kernel
theorem dX5_write_46 : decode cX5_write 46 = .ok (.iload_n 3, 1) := by decide +kernel
theorem dX5_write_47 : decode cX5_write 47 = .ok (.invokevirtual 75, 3) := by decide +kernel
theorem dX5_write_50 : decode cX5_write 50 = .ok (.istore 5, 2) := by decide +kernel
theorem dX5_write_52 : decode cX5_write 52 = .ok (.aload_n 0, 1) := by decide +kernel
theorem dX5_write_53 : decode cX5_write 53 = .ok (.getfield 11, 3) := by decide +kernel
theorem dX5_write_56 : decode cX5_write 56 = .ok (.iload_n 1, 1) := by decide +kernel
theorem dX5_write_57 : decode cX5_write 57 = .ok (.aaload, 1) := by decide +kernel
theorem dX5_write_58 : decode cX5_write 58 = .ok (.iload_n 2, 1) := by decide +kernel
theorem dX5_write_59 : decode cX5_write 59 = .ok (.iload_n 3, 1) := by decide +kernel
theorem dX5_write_60 : decode cX5_write 60 = .ok (.iload 4, 2) := by decide +kernel
theorem dX5_write_62 : decode cX5_write 62 = .ok (.invokevirtual 79, 3) := by decide +kernel
theorem dX5_write_65 : decode cX5_write 65 = .ok (.iload 5, 2) := by decide +kernel
theorem dX5_write_67 : decode cX5_write 67 = .ok (.ireturn, 1) := by decide +kernel
theorem dX5_mask_0 : decode cX5_mask 0 = .ok (.aload_n 0, 1) := by decide +kernel
theorem dX5_mask_1 : decode cX5_mask 1 = .ok (.iload_n 1, 1) := by decide +kernel
theorem dX5_mask_2 : decode cX5_mask 2 = .ok (.invokevirtual 68, 3) := by decide +kernel
theorem dX5_mask_5 : decode cX5_mask 5 = .ok (.ifCond .ne 5, 3) := by decide +kernel
theorem dX5_mask_8 : decode cX5_mask 8 = .ok (.iconst (-1), 1) := by decide +kernel
theorem dX5_mask_9 : decode cX5_mask 9 = .ok (.ireturn, 1) := by decide +kernel
theorem dX5_mask_10 : decode cX5_mask 10 = .ok (.iload_n 2, 1) := by decide +kernel
theorem dX5_mask_11 : decode cX5_mask 11 = .ok (.invokestatic 83, 3) := by decide +kernel
theorem dX5_mask_14 : decode cX5_mask 14 = .ok (.ifCond .ne 6, 3) := by decide +kernel
theorem dX5_mask_17 : decode cX5_mask 17 = .ok (.bipush (-2), 2) := by decide +kernel
theorem dX5_mask_19 : decode cX5_mask 19 = .ok (.ireturn, 1) := by decide +kernel
theorem dX5_mask_20 : decode cX5_mask 20 = .ok (.aload_n 0, 1) := by decide +kernel
theorem dX5_mask_21 : decode cX5_mask 21 = .ok (.getfield 11, 3) := by decide +kernel
theorem dX5_mask_24 : decode cX5_mask 24 = .ok (.iload_n 1, 1) := by decide +kernel
theorem dX5_mask_25 : decode cX5_mask 25 = .ok (.aaload, 1) := by decide +kernel
theorem dX5_mask_26 : decode cX5_mask 26 = .ok (.iload_n 2, 1) := by decide +kernel
theorem dX5_mask_27 : decode cX5_mask 27 = .ok (.invokevirtual 86, 3) := by decide +kernel
theorem dX5_mask_30 : decode cX5_mask 30 = .ok (.istore 4, 2) := by decide +kernel
theorem dX5_mask_32 : decode cX5_mask 32 = .ok (.aload_n 0, 1) := by decide +kernel
theorem dX5_mask_33 : decode cX5_mask 33 = .ok (.getfield 11, 3) := by decide +kernel
theorem dX5_mask_36 : decode cX5_mask 36 = .ok (.iload_n 1, 1) := by decide +kernel
theorem dX5_mask_37 : decode cX5_mask 37 = .ok (.aaload, 1) := by decide +kernel
theorem dX5_mask_38 : decode cX5_mask 38 = .ok (.iload_n 2, 1) := by decide +kernel
theorem dX5_mask_39 : decode cX5_mask 39 = .ok (.iload_n 3, 1) := by decide +kernel
theorem dX5_mask_40 : decode cX5_mask 40 = .ok (.invokevirtual 89, 3) := by decide +kernel
theorem dX5_mask_43 : decode cX5_mask 43 = .ok (.iload 4, 2) := by decide +kernel
theorem dX5_mask_45 : decode cX5_mask 45 = .ok (.ifCond .eq 7, 3) := by decide +kernel
theorem dX5_mask_48 : decode cX5_mask 48 = .ok (.iconst 1, 1) := by decide +kernel
theorem dX5_mask_49 : decode cX5_mask 49 = .ok (.goto 4, 3) := by decide +kernel
theorem dX5_mask_52 : decode cX5_mask 52 = .ok (.iconst 0, 1) := by decide +kernel
theorem dX5_mask_53 : decode cX5_mask 53 = .ok (.ireturn, 1) := by decide +kernel
theorem dX5_flip_0 : decode cX5_flip 0 = .ok (.aload_n 0, 1) := by decide +kernel
theorem dX5_flip_1 : decode cX5_flip 1 = .ok (.iload_n 1, 1) := by decide +kernel
theorem dX5_flip_2 : decode cX5_flip 2 = .ok (.invokevirtual 68, 3) := by decide +kernel
theorem dX5_flip_5 : decode cX5_flip 5 = .ok (.ifCond .ne 5, 3) := by decide +kernel
theorem dX5_flip_8 : decode cX5_flip 8 = .ok (.iconst (-1), 1) := by decide +kernel
theorem dX5_flip_9 : decode cX5_flip 9 = .ok (.ireturn, 1) := by decide +kernel
theorem dX5_flip_10 : decode cX5_flip 10 = .ok (.aload_n 0, 1) := by decide +kernel
theorem dX5_flip_11 : decode cX5_flip 11 = .ok (.getfield 11, 3) := by decide +kernel
theorem dX5_flip_14 : decode cX5_flip 14 = .ok (.iload_n 1, 1) := by decide +kernel
theorem dX5_flip_15 : decode cX5_flip 15 = .ok (.aaload, 1) := by decide +kernel
theorem dX5_flip_16 : decode cX5_flip 16 = .ok (.invokevirtual 93, 3) := by decide +kernel
theorem dX5_flip_19 : decode cX5_flip 19 = .ok (.aload_n 0, 1) := by decide +kernel
theorem dX5_flip_20 : decode cX5_flip 20 = .ok (.getfield 11, 3) := by decide +kernel
theorem dX5_flip_23 : decode cX5_flip 23 = .ok (.iload_n 1, 1) := by decide +kernel
theorem dX5_flip_24 : decode cX5_flip 24 = .ok (.aaload, 1) := by decide +kernel
theorem dX5_flip_25 : decode cX5_flip 25 = .ok (.getfield 96, 3) := by decide +kernel
theorem dX5_flip_28 : decode cX5_flip 28 = .ok (.ireturn, 1) := by decide +kernel
theorem dX5_turn_0 : decode cX5_turn 0 = .ok (.aload_n 0, 1) := by decide +kernel
theorem dX5_turn_1 : decode cX5_turn 1 = .ok (.iload_n 1, 1) := by decide +kernel
theorem dX5_turn_2 : decode cX5_turn 2 = .ok (.invokevirtual 68, 3) := by decide +kernel
theorem dX5_turn_5 : decode cX5_turn 5 = .ok (.ifCond .eq 15, 3) := by decide +kernel
theorem dX5_turn_8 : decode cX5_turn 8 = .ok (.aload_n 0, 1) := by decide +kernel
theorem dX5_turn_9 : decode cX5_turn 9 = .ok (.getfield 11, 3) := by decide +kernel
theorem dX5_turn_12 : decode cX5_turn 12 = .ok (.iload_n 1, 1) := by decide +kernel
theorem dX5_turn_13 : decode cX5_turn 13 = .ok (.aaload, 1) := by decide +kernel
theorem dX5_turn_14 : decode cX5_turn 14 = .ok (.invokevirtual 99, 3) := by decide +kernel
theorem dX5_turn_17 : decode cX5_turn 17 = .ok (.goto 4, 3) := by decide +kernel
theorem dX5_turn_20 : decode cX5_turn 20 = .ok (.iconst (-1), 1) := by decide +kernel
theorem dX5_turn_21 : decode cX5_turn 21 = .ok (.ireturn, 1) := by decide +kernel
theorem dX5_lift_0 : decode cX5_lift 0 = .ok (.aload_n 0, 1) := by decide +kernel
theorem dX5_lift_1 : decode cX5_lift 1 = .ok (.iload_n 1, 1) := by decide +kernel
theorem dX5_lift_2 : decode cX5_lift 2 = .ok (.invokevirtual 68, 3) := by decide +kernel
theorem dX5_lift_5 : decode cX5_lift 5 = .ok (.ifCond .ne 5, 3) := by decide +kernel
theorem dX5_lift_8 : decode cX5_lift 8 = .ok (.iconst (-1), 1) := by decide +kernel
theorem dX5_lift_9 : decode cX5_lift 9 = .ok (.ireturn, 1) := by decide +kernel
theorem dX5_lift_10 : decode cX5_lift 10 = .ok (.iload_n 2, 1) := by decide +kernel
theorem dX5_lift_11 : decode cX5_lift 11 = .ok (.bipush (-9), 2) := by decide +kernel
theorem dX5_lift_13 : decode cX5_lift 13 = .ok (.if_icmp .lt 9, 3) := by decide +kernel
theorem dX5_lift_16 : decode cX5_lift 16 = .ok (.iload_n 2, 1) := by decide +kernel
theorem dX5_lift_17 : decode cX5_lift 17 = .ok (.bipush 9, 2) := by decide +kernel
theorem dX5_lift_19 : decode cX5_lift 19 = .ok (.if_icmp .le 6, 3) := by decide +kernel
theorem dX5_lift_22 : decode cX5_lift 22 = .ok (.bipush (-2), 2) := by decide +kernel
theorem dX5_lift_24 : decode cX5_lift 24 = .ok (.ireturn, 1) := by decide +kernel
theorem dX5_lift_25 : decode cX5_lift 25 = .ok (.aload_n 0, 1) := by decide +kernel
theorem dX5_lift_26 : decode cX5_lift 26 = .ok (.getfield 11, 3) := by decide +kernel
theorem dX5_lift_29 : decode cX5_lift 29 = .ok (.iload_n 1, 1) := by decide +kernel
theorem dX5_lift_30 : decode cX5_lift 30 = .ok (.aaload, 1) := by decide +kernel
theorem dX5_lift_31 : decode cX5_lift 31 = .ok (.iload_n 2, 1) := by decide +kernel
theorem dX5_lift_32 : decode cX5_lift 32 = .ok (.invokevirtual 103, 3) := by decide +kernel
theorem dX5_lift_35 : decode cX5_lift 35 = .ok (.ifCond .eq 16, 3) := by decide +kernel
theorem dX5_lift_38 : decode cX5_lift 38 = .ok (.aload_n 0, 1) := by decide +kernel
theorem dX5_lift_39 : decode cX5_lift 39 = .ok (.getfield 11, 3) := by decide +kernel
theorem dX5_lift_42 : decode cX5_lift 42 = .ok (.iload_n 1, 1) := by decide +kernel
theorem dX5_lift_43 : decode cX5_lift 43 = .ok (.aaload, 1) := by decide +kernel
theorem dX5_lift_44 : decode cX5_lift 44 = .ok (.iload_n 2, 1) := by decide +kernel
theorem dX5_lift_45 : decode cX5_lift 45 = .ok (.invokevirtual 106, 3) := by decide +kernel
theorem dX5_lift_48 : decode cX5_lift 48 = .ok (.goto 5, 3) := by decide +kernel
theorem dX5_lift_51 : decode cX5_lift 51 = .ok (.bipush (-4), 2) := by decide +kernel
theorem dX5_lift_53 : decode cX5_lift 53 = .ok (.ireturn, 1) := by decide +kernel
theorem dX5_changeTempo_0 : decode cX5_changeTempo 0 = .ok (.iload_n 1, 1) := by decide +kernel
theorem dX5_changeTempo_1 : decode cX5_changeTempo 1 = .ok (.iconst 1, 1) := by decide +kernel
theorem dX5_changeTempo_2 : decode cX5_changeTempo 2 = .ok (.if_icmp .lt 8, 3) := by decide +kernel
theorem dX5_changeTempo_5 : decode cX5_changeTempo 5 = .ok (.iload_n 1, 1) := by decide +kernel
theorem dX5_changeTempo_6 : decode cX5_changeTempo 6 = .ok (.iconst 5, 1) := by decide +kernel
theorem dX5_changeTempo_7 : decode cX5_changeTempo 7 = .ok (.if_icmp .le 6, 3) := by decide +kernel
theorem dX5_changeTempo_10 : decode cX5_changeTempo 10 = .ok (.bipush (-2), 2) := by decide +kernel
theorem dX5_changeTempo_12 : decode cX5_changeTempo 12 = .ok (.ireturn, 1) := by decide +kernel
theorem dX5_changeTempo_13 : decode cX5_changeTempo 13 = .ok (.aload_n 0, 1) := by decide +kernel
theorem dX5_changeTempo_14 : decode cX5_changeTempo 14 = .ok (.getfield 21, 3) := by decide +kernel
theorem dX5_changeTempo_17 : decode cX5_changeTempo 17 = .ok (.istore_n 2, 1) := by decide +kernel
theorem dX5_changeTempo_18 : decode cX5_changeTempo 18 = .ok (.aload_n 0, 1) := by decide +kernel
theorem dX5_changeTempo_19 : decode cX5_changeTempo 19 = .ok (.iload_n 1, 1) := by decide +kernel
theorem dX5_changeTempo_20 : decode cX5_changeTempo 20 = .ok (.putfield 21, 3) := by decide +kernel
theorem dX5_changeTempo_23 : decode cX5_changeTempo 23 = .ok (.iload_n 2, 1) := by decide +kernel
theorem dX5_changeTempo_24 : decode cX5_changeTempo 24 = .ok (.ireturn, 1) := by decide +kernel
theorem dX5_changeLimit_0 : decode cX5_changeLimit 0 = .ok (.iload_n 1, 1) := by decide +kernel
theorem dX5_changeLimit_1 : decode cX5_changeLimit 1 = .ok (.iconst 1, 1) := by decide +kernel
theorem dX5_changeLimit_2 : decode cX5_changeLimit 2 = .ok (.if_icmp .lt 9, 3) := by decide +kernel
theorem dX5_changeLimit_5 : decode cX5_changeLimit 5 = .ok (.iload_n 1, 1) := by decide +kernel
theorem dX5_changeLimit_6 : decode cX5_changeLimit 6 = .ok (.bipush 99, 2) := by decide +kernel
theorem dX5_changeLimit_8 : decode cX5_changeLimit 8 = .ok (.if_icmp .le 6, 3) := by decide +kernel
theorem dX5_changeLimit_11 : decode cX5_changeLimit 11 = .ok (.bipush (-2), 2) := by decide +kernel
theorem dX5_changeLimit_13 : decode cX5_changeLimit 13 = .ok (.ireturn, 1) := by decide +kernel
theorem dX5_changeLimit_14 : decode cX5_changeLimit 14 = .ok (.aload_n 0, 1) := by decide +kernel
theorem dX5_changeLimit_15 : decode cX5_changeLimit 15 = .ok (.getfield 24, 3) := by decide +kernel
theorem dX5_changeLimit_18 : decode cX5_changeLimit 18 = .ok (.istore_n 2, 1) := by decide +kernel
theorem dX5_changeLimit_19 : decode cX5_changeLimit 19 = .ok (.aload_n 0, 1) := by decide +kernel
theorem dX5_changeLimit_20 : decode cX5_changeLimit 20 = .ok (.iload_n 1, 1) := by decide +kernel
theorem dX5_changeLimit_21 : decode cX5_changeLimit 21 = .ok (.putfield 24, 3) := by decide +kernel
theorem dX5_changeLimit_24 : decode cX5_changeLimit 24 = .ok (.iload_n 2, 1) := by decide +kernel
theorem dX5_changeLimit_25 : decode cX5_changeLimit 25 = .ok (.ireturn, 1) := by decide +kernel
theorem dX5_play_0 : decode cX5_play 0 = .ok (.iconst 0, 1) := by decide +kernel
theorem dX5_play_1 : decode cX5_play 1 = .ok (.istore_n 2, 1) := by decide +kernel
theorem dX5_play_2 : decode cX5_play 2 = .ok (.iconst 0, 1) := by decide +kernel
theorem dX5_play_3 : decode cX5_play 3 = .ok (.istore_n 3, 1) := by decide +kernel
theorem dX5_play_4 : decode cX5_play 4 = .ok (.iload_n 3, 1) := by decide +kernel
theorem dX5_play_5 : decode cX5_play 5 = .ok (.iload_n 1, 1) := by decide +kernel
theorem dX5_play_6 : decode cX5_play 6 = .ok (.if_icmp .ge 16, 3) := by decide +kernel
theorem dX5_play_9 : decode cX5_play 9 = .ok (.iload_n 2, 1) := by decide +kernel
theorem dX5_play_10 : decode cX5_play 10 = .ok (.aload_n 0, 1) := by decide +kernel
theorem dX5_play_11 : decode cX5_play 11 = .ok (.invokevirtual 110, 3) := by decide +kernel
theorem dX5_play_14 : decode cX5_play 14 = .ok (.iadd, 1) := by decide +kernel
theorem dX5_play_15 : decode cX5_play 15 = .ok (.istore_n 2, 1) := by decide +kernel
theorem dX5_play_16 : decode cX5_play 16 = .ok (.iinc 3 1, 3) := by decide +kernel
theorem dX5_play_19 : decode cX5_play 19 = .ok (.goto (-15), 3) := by decide +kernel
theorem dX5_play_22 : decode cX5_play 22 = .ok (.iload_n 2, 1) := by decide +kernel
theorem dX5_play_23 : decode cX5_play 23 = .ok (.ireturn, 1) := by decide +kernel
theorem dX5_playBeat_0 : decode cX5_playBeat 0 = .ok (.iconst 0, 1) := by decide +kernel
theorem dX5_playBeat_1 : decode cX5_playBeat 1 = .ok (.istore_n 1, 1) := by decide +kernel
theorem dX5_playBeat_2 : decode cX5_playBeat 2 = .ok (.aconst_null, 1) := by decide +kernel
theorem dX5_playBeat_3 : decode cX5_playBeat 3 = .ok (.astore_n 2, 1) := by decide +kernel
theorem dX5_playBeat_4 : decode cX5_playBeat 4 = .ok (.iconst 0, 1) := by decide +kernel
theorem dX5_playBeat_5 : decode cX5_playBeat 5 = .ok (.istore_n 3, 1) := by decide +kernel
theorem dX5_playBeat_6 : decode cX5_playBeat 6 = .ok (.iconst 0, 1) := by decide +kernel
theorem dX5_playBeat_7 : decode cX5_playBeat 7 = .ok (.istore 4, 2) := by decide +kernel
theorem dX5_playBeat_9 : decode cX5_playBeat 9 = .ok (.iload 4, 2) := by decide +kernel
theorem dX5_playBeat_11 : decode cX5_playBeat 11 = .ok (.aload_n 0, 1) := by decide +kernel
theorem dX5_playBeat_12 : decode cX5_playBeat 12 = .ok (.getfield 17, 3) := by decide +kernel
theorem dX5_playBeat_15 : decode cX5_playBeat 15 = .ok (.if_icmp .ge 54, 3) := by decide +kernel
theorem dX5_playBeat_18 : decode cX5_playBeat 18 = .ok (.iload 4, 2) := by decide +kernel
theorem dX5_playBeat_20 : decode cX5_playBeat 20 = .ok (.aload_n 0, 1) := by decide +kernel
theorem dX5_playBeat_21 : decode cX5_playBeat 21 = .ok (.getfield 11, 3) := by decide +kernel
theorem dX5_playBeat_24 : decode cX5_playBeat 24 = .ok (.arraylength, 1) := by decide +kernel
theorem dX5_playBeat_25 : decode cX5_playBeat 25 = .ok (.if_icmp .ge 44, 3) := by decide +kernel
theorem dX5_playBeat_28 : decode cX5_playBeat 28 = .ok (.aload_n 0, 1) := by decide +kernel
theorem dX5_playBeat_29 : decode cX5_playBeat 29 = .ok (.aload_n 0, 1) := by decide +kernel
theorem dX5_playBeat_30 : decode cX5_playBeat 30 = .ok (.getfield 11, 3) := by decide +kernel
theorem dX5_playBeat_33 : decode cX5_playBeat 33 = .ok (.iload 4, 2) := by decide +kernel
theorem dX5_playBeat_35 : decode cX5_playBeat 35 = .ok (.aaload, 1) := by decide +kernel
theorem dX5_playBeat_36 : decode cX5_playBeat 36 = .ok (.invokevirtual 113, 3) := by decide +kernel
theorem dX5_playBeat_39 : decode cX5_playBeat 39 = .ok (.istore 5, 2) := by decide +kernel
theorem dX5_playBeat_41 : decode cX5_playBeat 41 = .ok (.iload_n 1, 1) := by decide +kernel
theorem dX5_playBeat_42 : decode cX5_playBeat 42 = .ok (.iload 5, 2) := by decide +kernel
theorem dX5_playBeat_44 : decode cX5_playBeat 44 = .ok (.iadd, 1) := by decide +kernel
theorem dX5_playBeat_45 : decode cX5_playBeat 45 = .ok (.istore_n 1, 1) := by decide +kernel
theorem dX5_playBeat_46 : decode cX5_playBeat 46 = .ok (.iload 5, 2) := by decide +kernel
theorem dX5_playBeat_48 : decode cX5_playBeat 48 = .ok (.iload_n 3, 1) := by decide +kernel
theorem dX5_playBeat_49 : decode cX5_playBeat 49 = .ok (.if_icmp .le 14, 3) := by decide +kernel
theorem dX5_playBeat_52 : decode cX5_playBeat 52 = .ok (.iload 5, 2) := by decide +kernel
theorem dX5_playBeat_54 : decode cX5_playBeat 54 = .ok (.istore_n 3, 1) := by decide +kernel
theorem dX5_playBeat_55 : decode cX5_playBeat 55 = .ok (.aload_n 0, 1) := by decide +kernel
theorem dX5_playBeat_56 : decode cX5_playBeat 56 = .ok (.getfield 11, 3) := by decide +kernel
theorem dX5_playBeat_59 : decode cX5_playBeat 59 = .ok (.iload 4, 2) := by decide +kernel
theorem dX5_playBeat_61 : decode cX5_playBeat 61 = .ok (.aaload, 1) := by decide +kernel
theorem dX5_playBeat_62 : decode cX5_playBeat 62 = .ok (.astore_n 2, 1) := by decide +kernel
theorem dX5_playBeat_63 : decode cX5_playBeat 63 = .ok (.iinc 4 1, 3) := by decide +kernel
theorem dX5_playBeat_66 : decode cX5_playBeat 66 = .ok (.goto (-57), 3) := by decide +kernel
theorem dX5_playBeat_69 : decode cX5_playBeat 69 = .ok (.iload_n 1, 1) := by decide +kernel
theorem dX5_playBeat_70 : decode cX5_playBeat 70 = .ok (.aload_n 0, 1) := by decide +kernel
theorem dX5_playBeat_71 : decode cX5_playBeat 71 = .ok (.getfield 24, 3) := by decide +kernel
theorem dX5_playBeat_74 : decode cX5_playBeat 74 = .ok (.if_icmp .le 21, 3) := by decide +kernel
theorem dX5_playBeat_77 : decode cX5_playBeat 77 = .ok (.aload_n 2, 1) := by decide +kernel
theorem dX5_playBeat_78 : decode cX5_playBeat 78 = .ok (.ifnull 17, 3) := by decide +kernel
theorem dX5_playBeat_81 : decode cX5_playBeat 81 = .ok (.aload_n 0, 1) := by decide +kernel
theorem dX5_playBeat_82 : decode cX5_playBeat 82 = .ok (.dup, 1) := by decide +kernel
theorem dX5_playBeat_83 : decode cX5_playBeat 83 = .ok (.getfield 30, 3) := by decide +kernel
theorem dX5_playBeat_86 : decode cX5_playBeat 86 = .ok (.iconst 1, 1) := by decide +kernel
theorem dX5_playBeat_87 : decode cX5_playBeat 87 = .ok (.iadd, 1) := by decide +kernel
theorem dX5_playBeat_88 : decode cX5_playBeat 88 = .ok (.putfield 30, 3) := by decide +kernel
theorem dX5_playBeat_91 : decode cX5_playBeat 91 = .ok (.aload_n 2, 1) := by decide +kernel
theorem dX5_playBeat_92 : decode cX5_playBeat 92 = .ok (.invokevirtual 117, 3) := by decide +kernel
theorem dX5_playBeat_95 : decode cX5_playBeat 95 = .ok (.aload_n 0, 1) := by decide +kernel
theorem dX5_playBeat_96 : decode cX5_playBeat 96 = .ok (.iload_n 1, 1) := by decide +kernel
theorem dX5_playBeat_97 : decode cX5_playBeat 97 = .ok (.invokevirtual 120, 3) := by decide +kernel
theorem dX5_playBeat_100 : decode cX5_playBeat 100 = .ok (.iload_n 1, 1) := by decide +kernel
theorem dX5_playBeat_101 : decode cX5_playBeat 101 = .ok (.ireturn, 1) := by decide +kernel
theorem dX5_playSection_0 : decode cX5_playSection 0 = .ok (.aload_n 1, 1) := by decide +kernel
theorem dX5_playSection_1 : decode cX5_playSection 1 = .ok (.getfield 124, 3) := by decide +kernel
theorem dX5_playSection_4 : decode cX5_playSection 4 = .ok (.ifCond .le 15, 3) := by decide +kernel
theorem dX5_playSection_7 : decode cX5_playSection 7 = .ok (.aload_n 1, 1) := by decide +kernel
theorem dX5_playSection_8 : decode cX5_playSection 8 = .ok (.dup, 1) := by decide +kernel
theorem dX5_playSection_9 : decode cX5_playSection 9 = .ok (.getfield 124, 3) := by decide +kernel
theorem dX5_playSection_12 : decode cX5_playSection 12 = .ok (.iconst 1, 1) := by decide +kernel
theorem dX5_playSection_13 : decode cX5_playSection 13 = .ok (.isub, 1) := by decide +kernel
theorem dX5_playSection_14 : decode cX5_playSection 14 = .ok (.putfield 124, 3) := by decide +kernel
theorem dX5_playSection_17 : decode cX5_playSection 17 = .ok (.iconst 0, 1) := by decide +kernel
theorem dX5_playSection_18 : decode cX5_playSection 18 = .ok (.ireturn, 1) := by decide +kernel
theorem dX5_playSection_19 : decode cX5_playSection 19 = .ok (.aload_n 1, 1) := by decide +kernel
theorem dX5_playSection_20 : decode cX5_playSection 20 = .ok (.aload_n 0, 1) := by decide +kernel
theorem dX5_playSection_21 : decode cX5_playSection 21 = .ok (.getfield 27, 3) := by decide +kernel
theorem dX5_playSection_24 : decode cX5_playSection 24 = .ok (.invokevirtual 127, 3) := by decide +kernel
theorem dX5_playSection_27 : decode cX5_playSection 27 = .ok (.istore_n 2, 1) := by decide +kernel
theorem dX5_playSection_28 : decode cX5_playSection 28 = .ok (.aload_n 1, 1) := by decide +kernel
theorem dX5_playSection_29 : decode cX5_playSection 29 = .ok (.iload_n 2, 1) := by decide +kernel
theorem dX5_playSection_30 : decode cX5_playSection 30 = .ok (.invokevirtual 86, 3) := by decide +kernel
theorem dX5_playSection_33 : decode cX5_playSection 33 = .ok (.ifCond .eq 5, 3) := by decide +kernel
theorem dX5_playSection_36 : decode cX5_playSection 36 = .ok (.iconst 0, 1) := by decide +kernel
theorem dX5_playSection_37 : decode cX5_playSection 37 = .ok (.ireturn, 1) := by decide +kernel
theorem dX5_playSection_38 : decode cX5_playSection 38 = .ok (.aload_n 0, 1) := by decide +kernel
theorem dX5_playSection_39 : decode cX5_playSection 39 = .ok (.aload_n 1, 1) := by decide +kernel
theorem dX5_playSection_40 : decode cX5_playSection 40 = .ok (.iload_n 2, 1) := by decide +kernel
theorem dX5_playSection_41 : decode cX5_playSection 41 = .ok (.invokevirtual 130, 3) := by decide +kernel
theorem dX5_playSection_44 : decode cX5_playSection 44 = .ok (.aload_n 1, 1) := by decide +kernel
theorem dX5_playSection_45 : decode cX5_playSection 45 = .ok (.iload_n 2, 1) := by decide +kernel
theorem dX5_playSection_46 : decode cX5_playSection 46 = .ok (.invokevirtual 134, 3) := by decide +kernel
theorem dX5_playSection_49 : decode cX5_playSection 49 = .ok (.istore_n 3, 1) := by decide +kernel
theorem dX5_playSection_50 : decode cX5_playSection 50 = .ok (.aload_n 1, 1) := by decide +kernel
theorem dX5_playSection_51 : decode cX5_playSection 51 = .ok (.dup, 1) := by decide +kernel
theorem dX5_playSection_52 : decode cX5_playSection 52 = .ok (.getfield 137, 3) := by decide +kernel
theorem dX5_playSection_55 : decode cX5_playSection 55 = .ok (.iload_n 3, 1) := by decide +kernel
theorem dX5_playSection_56 : decode cX5_playSection 56 = .ok (.iadd, 1) := by decide +kernel
theorem dX5_playSection_57 : decode cX5_playSection 57 = .ok (.putfield 137, 3) := by decide +kernel
theorem dX5_playSection_60 : decode cX5_playSection 60 = .ok (.iload_n 3, 1) := by decide +kernel
theorem dX5_playSection_61 : decode cX5_playSection 61 = .ok (.ireturn, 1) := by decide +kernel
theorem dX5_recordSounds_0 : decode cX5_recordSounds 0 = .ok (.aload_n 1, 1) := by decide +kernel
theorem dX5_recordSounds_1 : decode cX5_recordSounds 1 = .ok (.getfield 140, 3) := by decide +kernel
theorem dX5_recordSounds_4 : decode cX5_recordSounds 4 = .ok (.invokestatic 56, 3) := by decide +kernel
theorem dX5_recordSounds_7 : decode cX5_recordSounds 7 = .ok (.bipush 10, 2) := by decide +kernel
theorem dX5_recordSounds_9 : decode cX5_recordSounds 9 = .ok (.imul, 1) := by decide +kernel
theorem dX5_recordSounds_10 : decode cX5_recordSounds 10 = .ok (.istore_n 3, 1) := by decide +kernel
theorem dX5_recordSounds_11 : decode cX5_recordSounds 11 = .ok (.iload_n 2, 1) := by decide +kernel
theorem dX5_recordSounds_12 : decode cX5_recordSounds 12 = .ok (.istore 4, 2) := by decide +kernel
theorem dX5_recordSounds_14 : decode cX5_recordSounds 14 = .ok (.iload 4, 2) := by decide +kernel
theorem dX5_recordSounds_16 : decode cX5_recordSounds 16 = .ok (.ifCond .lt 66, 3) := by decide +kernel
theorem dX5_recordSounds_19 : decode cX5_recordSounds 19 = .ok (.iload 4, 2) := by decide +kernel
theorem dX5_recordSounds_21 : decode cX5_recordSounds 21 = .ok (.aload_n 1, 1) := by decide +kernel
theorem dX5_recordSounds_22 : decode cX5_recordSounds 22 = .ok (.getfield 144, 3) := by decide +kernel
theorem dX5_recordSounds_25 : decode cX5_recordSounds 25 = .ok (.arraylength, 1) := by decide +kernel
theorem dX5_recordSounds_26 : decode cX5_recordSounds 26 = .ok (.if_icmp .ge 56, 3) := by decide +kernel
theorem dX5_recordSounds_29 : decode cX5_recordSounds 29 = .ok (.iload_n 3, 1) := by decide +kernel
theorem dX5_recordSounds_30 : decode cX5_recordSounds 30 = .ok (.aload_n 1, 1) := by decide +kernel
theorem dX5_recordSounds_31 : decode cX5_recordSounds 31 = .ok (.getfield 144, 3) := by decide +kernel
theorem dX5_recordSounds_34 : decode cX5_recordSounds 34 = .ok (.iload 4, 2) := by decide +kernel
theorem dX5_recordSounds_36 : decode cX5_recordSounds 36 = .ok (.iaload, 1) := by decide +kernel
theorem dX5_recordSounds_37 : decode cX5_recordSounds 37 = .ok (.iadd, 1) := by decide +kernel
theorem dX5_recordSounds_38 : decode cX5_recordSounds 38 = .ok (.istore 5, 2) := by decide +kernel
theorem dX5_recordSounds_40 : decode cX5_recordSounds 40 = .ok (.aload_n 1, 1) := by decide +kernel
theorem dX5_recordSounds_41 : decode cX5_recordSounds 41 = .ok (.getfield 144, 3) := by decide +kernel
theorem dX5_recordSounds_44 : decode cX5_recordSounds 44 = .ok (.iload 4, 2) := by decide +kernel
theorem dX5_recordSounds_46 : decode cX5_recordSounds 46 = .ok (.iaload, 1) := by decide +kernel
theorem dX5_recordSounds_47 : decode cX5_recordSounds 47 = .ok (.ifCond .eq 29, 3) := by decide +kernel
theorem dX5_recordSounds_50 : decode cX5_recordSounds 50 = .ok (.iload 5, 2) := by decide +kernel
theorem dX5_recordSounds_52 : decode cX5_recordSounds 52 = .ok (.ifCond .lt 24, 3) := by decide +kernel
theorem dX5_recordSounds_55 : decode cX5_recordSounds 55 = .ok (.iload 5, 2) := by decide +kernel
theorem dX5_recordSounds_57 : decode cX5_recordSounds 57 = .ok (.aload_n 0, 1) := by decide +kernel
theorem dX5_recordSounds_58 : decode cX5_recordSounds 58 = .ok (.getfield 40, 3) := by decide +kernel
theorem dX5_recordSounds_61 : decode cX5_recordSounds 61 = .ok (.arraylength, 1) := by decide +kernel
theorem dX5_recordSounds_62 : decode cX5_recordSounds 62 = .ok (.if_icmp .ge 14, 3) := by decide +kernel
theorem dX5_recordSounds_65 : decode cX5_recordSounds 65 = .ok (.aload_n 0, 1) := by decide +kernel
theorem dX5_recordSounds_66 : decode cX5_recordSounds 66 = .ok (.getfield 40, 3) := by decide +kernel
theorem dX5_recordSounds_69 : decode cX5_recordSounds 69 = .ok (.iload 5, 2) := by decide +kernel
theorem dX5_recordSounds_71 : decode cX5_recordSounds 71 = .ok (.dup2, 1) := by decide +kernel
theorem dX5_recordSounds_72 : decode cX5_recordSounds 72 = .ok (.iaload, 1) := by decide +kernel
theorem dX5_recordSounds_73 : decode cX5_recordSounds 73 = .ok (.iconst 1, 1) := by decide +kernel
theorem dX5_recordSounds_74 : decode cX5_recordSounds 74 = .ok (.iadd, 1) := by decide +kernel
theorem dX5_recordSounds_75 : decode cX5_recordSounds 75 = .ok (.iastore, 1) := by decide +kernel
theorem dX5_recordSounds_76 : decode cX5_recordSounds 76 = .ok (.iinc 4 6, 3) := by decide +kernel
theorem dX5_recordSounds_79 : decode cX5_recordSounds 79 = .ok (.goto (-65), 3) := by decide +kernel
theorem dX5_recordSounds_82 : decode cX5_recordSounds 82 = .ok (.return_, 1) := by decide +kernel
theorem dX5_logTotal_0 : decode cX5_logTotal 0 = .ok (.aload_n 0, 1) := by decide +kernel
theorem dX5_logTotal_1 : decode cX5_logTotal 1 = .ok (.getfield 27, 3) := by decide +kernel
theorem dX5_logTotal_4 : decode cX5_logTotal 4 = .ok (.bipush 10, 2) := by decide +kernel
theorem dX5_logTotal_6 : decode cX5_logTotal 6 = .ok (.irem, 1) := by decide +kernel
theorem dX5_logTotal_7 : decode cX5_logTotal 7 = .ok (.istore_n 2, 1) := by decide +kernel
theorem dX5_logTotal_8 : decode cX5_logTotal 8 = .ok (.iload_n 2, 1) := by decide +kernel
theorem dX5_logTotal_9 : decode cX5_logTotal 9 = .ok (.ifCond .lt 19, 3) := by decide +kernel
theorem dX5_logTotal_12 : decode cX5_logTotal 12 = .ok (.iload_n 2, 1) := by decide +kernel
theorem dX5_logTotal_13 : decode cX5_logTotal 13 = .ok (.aload_n 0, 1) := by decide +kernel
theorem dX5_logTotal_14 : decode cX5_logTotal 14 = .ok (.getfield 44, 3) := by decide +kernel
theorem dX5_logTotal_17 : decode cX5_logTotal 17 = .ok (.arraylength, 1) := by decide +kernel
theorem dX5_logTotal_18 : decode cX5_logTotal 18 = .ok (.if_icmp .ge 10, 3) := by decide +kernel
theorem dX5_logTotal_21 : decode cX5_logTotal 21 = .ok (.aload_n 0, 1) := by decide +kernel
theorem dX5_logTotal_22 : decode cX5_logTotal 22 = .ok (.getfield 44, 3) := by decide +kernel
theorem dX5_logTotal_25 : decode cX5_logTotal 25 = .ok (.iload_n 2, 1) := by decide +kernel
theorem dX5_logTotal_26 : decode cX5_logTotal 26 = .ok (.iload_n 1, 1) := by decide +kernel
theorem dX5_logTotal_27 : decode cX5_logTotal 27 = .ok (.iastore, 1) := by decide +kernel
theorem dX5_logTotal_28 : decode cX5_logTotal 28 = .ok (.aload_n 0, 1) := by decide +kernel
theorem dX5_logTotal_29 : decode cX5_logTotal 29 = .ok (.aload_n 0, 1) := by decide +kernel
theorem dX5_logTotal_30 : decode cX5_logTotal 30 = .ok (.getfield 33, 3) := by decide +kernel
theorem dX5_logTotal_33 : decode cX5_logTotal 33 = .ok (.iload_n 1, 1) := by decide +kernel
theorem dX5_logTotal_34 : decode cX5_logTotal 34 = .ok (.invokestatic 147, 3) := by decide +kernel
theorem dX5_logTotal_37 : decode cX5_logTotal 37 = .ok (.putfield 33, 3) := by decide +kernel
theorem dX5_logTotal_40 : decode cX5_logTotal 40 = .ok (.aload_n 0, 1) := by decide +kernel
theorem dX5_logTotal_41 : decode cX5_logTotal 41 = .ok (.dup, 1) := by decide +kernel
theorem dX5_logTotal_42 : decode cX5_logTotal 42 = .ok (.getfield 36, 3) := by decide +kernel
theorem dX5_logTotal_45 : decode cX5_logTotal 45 = .ok (.iload_n 1, 1) := by decide +kernel
theorem dX5_logTotal_46 : decode cX5_logTotal 46 = .ok (.i2l, 1) := by decide +kernel
theorem dX5_logTotal_47 : decode cX5_logTotal 47 = .ok (.ladd, 1) := by decide +kernel
theorem dX5_logTotal_48 : decode cX5_logTotal 48 = .ok (.putfield 36, 3) := by decide +kernel
theorem dX5_logTotal_51 : decode cX5_logTotal 51 = .ok (.aload_n 0, 1) := by decide +kernel
theorem dX5_logTotal_52 : decode cX5_logTotal 52 = .ok (.dup, 1) := by decide +kernel
theorem dX5_logTotal_53 : decode cX5_logTotal 53 = .ok (.getfield 27, 3) := by decide +kernel
theorem dX5_logTotal_56 : decode cX5_logTotal 56 = .ok (.iconst 1, 1) := by decide +kernel
theorem dX5_logTotal_57 : decode cX5_logTotal 57 = .ok (.iadd, 1) := by decide +kernel
theorem dX5_logTotal_58 : decode cX5_logTotal 58 = .ok (.putfield 27, 3) := by decide +kernel
theorem dX5_logTotal_61 : decode cX5_logTotal 61 = .ok (.return_, 1) := by decide +kernel
theorem dX5_totalOf_0 : decode cX5_totalOf 0 = .ok (.iload_n 1, 1) := by decide +kernel
theorem dX5_totalOf_1 : decode cX5_totalOf 1 = .ok (.bipush 10, 2) := by decide +kernel
theorem dX5_totalOf_3 : decode cX5_totalOf 3 = .ok (.irem, 1) := by decide +kernel
theorem dX5_totalOf_4 : decode cX5_totalOf 4 = .ok (.istore_n 2, 1) := by decide +kernel
theorem dX5_totalOf_5 : decode cX5_totalOf 5 = .ok (.iload_n 2, 1) := by decide +kernel
theorem dX5_totalOf_6 : decode cX5_totalOf 6 = .ok (.ifCond .lt 21, 3) := by decide +kernel
theorem dX5_totalOf_9 : decode cX5_totalOf 9 = .ok (.iload_n 2, 1) := by decide +kernel
theorem dX5_totalOf_10 : decode cX5_totalOf 10 = .ok (.aload_n 0, 1) := by decide +kernel
theorem dX5_totalOf_11 : decode cX5_totalOf 11 = .ok (.getfield 44, 3) := by decide +kernel
theorem dX5_totalOf_14 : decode cX5_totalOf 14 = .ok (.arraylength, 1) := by decide +kernel
theorem dX5_totalOf_15 : decode cX5_totalOf 15 = .ok (.if_icmp .ge 12, 3) := by decide +kernel
theorem dX5_totalOf_18 : decode cX5_totalOf 18 = .ok (.aload_n 0, 1) := by decide +kernel
theorem dX5_totalOf_19 : decode cX5_totalOf 19 = .ok (.getfield 44, 3) := by decide +kernel
theorem dX5_totalOf_22 : decode cX5_totalOf 22 = .ok (.iload_n 2, 1) := by decide +kernel
theorem dX5_totalOf_23 : decode cX5_totalOf 23 = .ok (.iaload, 1) := by decide +kernel
theorem dX5_totalOf_24 : decode cX5_totalOf 24 = .ok (.goto 4, 3) := by decide +kernel
theorem dX5_totalOf_27 : decode cX5_totalOf 27 = .ok (.iconst 0, 1) := by decide +kernel
theorem dX5_totalOf_28 : decode cX5_totalOf 28 = .ok (.ireturn, 1) := by decide +kernel
theorem dX5_soundsOf_0 : decode cX5_soundsOf 0 = .ok (.iload_n 1, 1) := by decide +kernel
theorem dX5_soundsOf_1 : decode cX5_soundsOf 1 = .ok (.invokestatic 56, 3) := by decide +kernel
theorem dX5_soundsOf_4 : decode cX5_soundsOf 4 = .ok (.bipush 10, 2) := by decide +kernel
theorem dX5_soundsOf_6 : decode cX5_soundsOf 6 = .ok (.imul, 1) := by decide +kernel
theorem dX5_soundsOf_7 : decode cX5_soundsOf 7 = .ok (.iload_n 2, 1) := by decide +kernel
theorem dX5_soundsOf_8 : decode cX5_soundsOf 8 = .ok (.iadd, 1) := by decide +kernel
theorem dX5_soundsOf_9 : decode cX5_soundsOf 9 = .ok (.istore_n 3, 1) := by decide +kernel
theorem dX5_soundsOf_10 : decode cX5_soundsOf 10 = .ok (.iload_n 3, 1) := by decide +kernel
theorem dX5_soundsOf_11 : decode cX5_soundsOf 11 = .ok (.ifCond .lt 21, 3) := by decide +kernel
theorem dX5_soundsOf_14 : decode cX5_soundsOf 14 = .ok (.iload_n 3, 1) := by decide +kernel
theorem dX5_soundsOf_15 : decode cX5_soundsOf 15 = .ok (.aload_n 0, 1) := by decide +kernel
theorem dX5_soundsOf_16 : decode cX5_soundsOf 16 = .ok (.getfield 40, 3) := by decide +kernel
theorem dX5_soundsOf_19 : decode cX5_soundsOf 19 = .ok (.arraylength, 1) := by decide +kernel
theorem dX5_soundsOf_20 : decode cX5_soundsOf 20 = .ok (.if_icmp .ge 12, 3) := by decide +kernel
theorem dX5_soundsOf_23 : decode cX5_soundsOf 23 = .ok (.aload_n 0, 1) := by decide +kernel
theorem dX5_soundsOf_24 : decode cX5_soundsOf 24 = .ok (.getfield 40, 3) := by decide +kernel
theorem dX5_soundsOf_27 : decode cX5_soundsOf 27 = .ok (.iload_n 3, 1) := by decide +kernel
theorem dX5_soundsOf_28 : decode cX5_soundsOf 28 = .ok (.iaload, 1) := by decide +kernel
theorem dX5_soundsOf_29 : decode cX5_soundsOf 29 = .ok (.goto 4, 3) := by decide +kernel
theorem dX5_soundsOf_32 : decode cX5_soundsOf 32 = .ok (.iconst 0, 1) := by decide +kernel
theorem dX5_soundsOf_33 : decode cX5_soundsOf 33 = .ok (.ireturn, 1) := by decide +kernel
theorem dX5_soundsOfAllKinds_0 : decode cX5_soundsOfAllKinds 0 = .ok (.aload_n 0, 1) := by decide +kernel
theorem dX5_soundsOfAllKinds_1 : decode cX5_soundsOfAllKinds 1 = .ok (.bipush 115, 2) := by decide +kernel
theorem dX5_soundsOfAllKinds_3 : decode cX5_soundsOfAllKinds 3 = .ok (.iload_n 1, 1) := by decide +kernel
theorem dX5_soundsOfAllKinds_4 : decode cX5_soundsOfAllKinds 4 = .ok (.invokevirtual 152, 3) := by decide +kernel
theorem dX5_soundsOfAllKinds_7 : decode cX5_soundsOfAllKinds 7 = .ok (.aload_n 0, 1) := by decide +kernel
theorem dX5_soundsOfAllKinds_8 : decode cX5_soundsOfAllKinds 8 = .ok (.bipush 119, 2) := by decide +kernel
theorem dX5_soundsOfAllKinds_10 : decode cX5_soundsOfAllKinds 10 = .ok (.iload_n 1, 1) := by decide +kernel
theorem dX5_soundsOfAllKinds_11 : decode cX5_soundsOfAllKinds 11 = .ok (.invokevirtual 152, 3) := by decide +kernel
theorem dX5_soundsOfAllKinds_14 : decode cX5_soundsOfAllKinds 14 = .ok (.iadd, 1) := by decide +kernel
theorem dX5_soundsOfAllKinds_15 : decode cX5_soundsOfAllKinds 15 = .ok (.aload_n 0, 1) := by decide +kernel
theorem dX5_soundsOfAllKinds_16 : decode cX5_soundsOfAllKinds 16 = .ok (.bipush 100, 2) := by decide +kernel
theorem dX5_soundsOfAllKinds_18 : decode cX5_soundsOfAllKinds 18 = .ok (.iload_n 1, 1) := by decide +kernel
theorem dX5_soundsOfAllKinds_19 : decode cX5_soundsOfAllKinds 19 = .ok (.invokevirtual 152, 3) := by decide +kernel
theorem dX5_soundsOfAllKinds_22 : decode cX5_soundsOfAllKinds 22 = .ok (.iadd, 1) := by decide +kernel
theorem dX5_soundsOfAllKinds_23 : decode cX5_soundsOfAllKinds 23 = .ok (.ireturn, 1) := by decide +kernel
theorem dX6_init_0 : decode cX6_init 0 = .ok (.aload_n 0, 1) := by decide +kernel
theorem dX6_init_1 : decode cX6_init 1 = .ok (.invokespecial 3, 3) := by decide +kernel
theorem dX6_init_4 : decode cX6_init 4 = .ok (.aload_n 0, 1) := by decide +kernel
theorem dX6_init_5 : decode cX6_init 5 = .ok (.bipush 60, 2) := by decide +kernel
theorem dX6_init_7 : decode cX6_init 7 = .ok (.newarray .char, 2) := by decide +kernel
theorem dX6_init_9 : decode cX6_init 9 = .ok (.putfield 9, 3) := by decide +kernel
theorem dX6_init_12 : decode cX6_init 12 = .ok (.aload_n 0, 1) := by decide +kernel
theorem dX6_init_13 : decode cX6_init 13 = .ok (.iconst 0, 1) := by decide +kernel
theorem dX6_init_14 : decode cX6_init 14 = .ok (.putfield 15, 3) := by decide +kernel
theorem dX6_init_17 : decode cX6_init 17 = .ok (.return_, 1) := by decide +kernel
theorem dX6_clear_0 : decode cX6_clear 0 = .ok (.aload_n 0, 1) := by decide +kernel
theorem dX6_clear_1 : decode cX6_clear 1 = .ok (.iconst 0, 1) := by decide +kernel
theorem dX6_clear_2 : decode cX6_clear 2 = .ok (.putfield 15, 3) := by decide +kernel
theorem dX6_clear_5 : decode cX6_clear 5 = .ok (.return_, 1) := by decide +kernel
theorem dX6_isFull_0 : decode cX6_isFull 0 = .ok (.aload_n 0, 1) := by decide +kernel
theorem dX6_isFull_1 : decode cX6_isFull 1 = .ok (.getfield 15, 3) := by decide +kernel
theorem dX6_isFull_4 : decode cX6_isFull 4 = .ok (.aload_n 0, 1) := by decide +kernel
theorem dX6_isFull_5 : decode cX6_isFull 5 = .ok (.getfield 9, 3) := by decide +kernel
theorem dX6_isFull_8 : decode cX6_isFull 8 = .ok (.arraylength, 1) := by decide +kernel
theorem dX6_isFull_9 : decode cX6_isFull 9 = .ok (.if_icmp .lt 7, 3) := by decide +kernel
theorem dX6_isFull_12 : decode cX6_isFull 12 = .ok (.iconst 1, 1) := by decide +kernel
theorem dX6_isFull_13 : decode cX6_isFull 13 = .ok (.goto 4, 3) := by decide +kernel
theorem dX6_isFull_16 : decode cX6_isFull 16 = .ok (.iconst 0, 1) := by decide +kernel
theorem dX6_isFull_17 : decode cX6_isFull 17 = .ok (.ireturn, 1) := by decide +kernel
theorem dX6_append_0 : decode cX6_append 0 = .ok (.aload_n 0, 1) := by decide +kernel
theorem dX6_append_1 : decode cX6_append 1 = .ok (.getfield 15, 3) := by decide +kernel
theorem dX6_append_4 : decode cX6_append 4 = .ok (.ifCond .lt 35, 3) := by decide +kernel
theorem dX6_append_7 : decode cX6_append 7 = .ok (.aload_n 0, 1) := by decide +kernel
theorem dX6_append_8 : decode cX6_append 8 = .ok (.getfield 15, 3) := by decide +kernel
theorem dX6_append_11 : decode cX6_append 11 = .ok (.aload_n 0, 1) := by decide +kernel
theorem dX6_append_12 : decode cX6_append 12 = .ok (.getfield 9, 3) := by decide +kernel
theorem dX6_append_15 : decode cX6_append 15 = .ok (.arraylength, 1) := by decide +kernel
theorem dX6_append_16 : decode cX6_append 16 = .ok (.if_icmp .ge 23, 3) := by decide +kernel
theorem dX6_append_19 : decode cX6_append 19 = .ok (.aload_n 0, 1) := by decide +kernel
theorem dX6_append_20 : decode cX6_append 20 = .ok (.getfield 9, 3) := by decide +kernel
theorem dX6_append_23 : decode cX6_append 23 = .ok (.aload_n 0, 1) := by decide +kernel
theorem dX6_append_24 : decode cX6_append 24 = .ok (.getfield 15, 3) := by decide +kernel
theorem dX6_append_27 : decode cX6_append 27 = .ok (.iload_n 1, 1) := by decide +kernel
theorem dX6_append_28 : decode cX6_append 28 = .ok (.castore, 1) := by decide +kernel
theorem dX6_append_29 : decode cX6_append 29 = .ok (.aload_n 0, 1) := by decide +kernel
theorem dX6_append_30 : decode cX6_append 30 = .ok (.dup, 1) := by decide +kernel
theorem dX6_append_31 : decode cX6_append 31 = .ok (.getfield 15, 3) := by decide +kernel
theorem dX6_append_34 : decode cX6_append 34 = .ok (.iconst 1, 1) := by decide +kernel
theorem dX6_append_35 : decode cX6_append 35 = .ok (.iadd, 1) := by decide +kernel
theorem dX6_append_36 : decode cX6_append 36 = .ok (.putfield 15, 3) := by decide +kernel
theorem dX6_append_39 : decode cX6_append 39 = .ok (.return_, 1) := by decide +kernel
theorem dX6_has_0 : decode cX6_has 0 = .ok (.iload_n 1, 1) := by decide +kernel
theorem dX6_has_1 : decode cX6_has 1 = .ok (.ifCond .lt 24, 3) := by decide +kernel
theorem dX6_has_4 : decode cX6_has 4 = .ok (.iload_n 1, 1) := by decide +kernel
theorem dX6_has_5 : decode cX6_has 5 = .ok (.aload_n 0, 1) := by decide +kernel
theorem dX6_has_6 : decode cX6_has 6 = .ok (.getfield 15, 3) := by decide +kernel
theorem dX6_has_9 : decode cX6_has 9 = .ok (.if_icmp .ge 16, 3) := by decide +kernel
theorem dX6_has_12 : decode cX6_has 12 = .ok (.iload_n 1, 1) := by decide +kernel
theorem dX6_has_13 : decode cX6_has 13 = .ok (.aload_n 0, 1) := by decide +kernel
theorem dX6_has_14 : decode cX6_has 14 = .ok (.getfield 9, 3) := by decide +kernel
theorem dX6_has_17 : decode cX6_has 17 = .ok (.arraylength, 1) := by decide +kernel
theorem dX6_has_18 : decode cX6_has 18 = .ok (.if_icmp .ge 7, 3) := by decide +kernel
theorem dX6_has_21 : decode cX6_has 21 = .ok (.iconst 1, 1) := by decide +kernel
theorem dX6_has_22 : decode cX6_has 22 = .ok (.goto 4, 3) := by decide +kernel
theorem dX6_has_25 : decode cX6_has 25 = .ok (.iconst 0, 1) := by decide +kernel
theorem dX6_has_26 : decode cX6_has 26 = .ok (.ireturn, 1) := by decide +kernel
theorem dX6_signAt_0 : decode cX6_signAt 0 = .ok (.iload_n 1, 1) := by decide +kernel
theorem dX6_signAt_1 : decode cX6_signAt 1 = .ok (.ifCond .lt 29, 3) := by decide +kernel
theorem dX6_signAt_4 : decode cX6_signAt 4 = .ok (.iload_n 1, 1) := by decide +kernel
theorem dX6_signAt_5 : decode cX6_signAt 5 = .ok (.aload_n 0, 1) := by decide +kernel
theorem dX6_signAt_6 : decode cX6_signAt 6 = .ok (.getfield 15, 3) := by decide +kernel
theorem dX6_signAt_9 : decode cX6_signAt 9 = .ok (.if_icmp .ge 21, 3) := by decide +kernel
theorem dX6_signAt_12 : decode cX6_signAt 12 = .ok (.iload_n 1, 1) := by decide +kernel
theorem dX6_signAt_13 : decode cX6_signAt 13 = .ok (.aload_n 0, 1) := by decide +kernel
theorem dX6_signAt_14 : decode cX6_signAt 14 = .ok (.getfield 9, 3) := by decide +kernel
theorem dX6_signAt_17 : decode cX6_signAt 17 = .ok (.arraylength, 1) := by decide +kernel
theorem dX6_signAt_18 : decode cX6_signAt 18 = .ok (.if_icmp .ge 12, 3) := by decide +kernel
theorem dX6_signAt_21 : decode cX6_signAt 21 = .ok (.aload_n 0, 1) := by decide +kernel
theorem dX6_signAt_22 : decode cX6_signAt 22 = .ok (.getfield 9, 3) := by decide +kernel
theorem dX6_signAt_25 : decode cX6_signAt 25 = .ok (.iload_n 1, 1) := by decide +kernel
theorem dX6_signAt_26 : decode cX6_signAt 26 = .ok (.caload, 1) := by decide +kernel
theorem dX6_signAt_27 : decode cX6_signAt 27 = .ok (.goto 4, 3) := by decide +kernel
theorem dX6_signAt_30 : decode cX6_signAt 30 = .ok (.iconst 0, 1) := by decide +kernel
theorem dX6_signAt_31 : decode cX6_signAt 31 = .ok (.ireturn, 1) := by decide +kernel
theorem dX8_init_0 : decode cX8_init 0 = .ok (.aload_n 0, 1) := by decide +kernel
theorem dX8_init_1 : decode cX8_init 1 = .ok (.invokespecial 3, 3) := by decide +kernel
theorem dX8_init_4 : decode cX8_init 4 = .ok (.aload_n 0, 1) := by decide +kernel
theorem dX8_init_5 : decode cX8_init 5 = .ok (.new 9, 3) := by decide +kernel
theorem dX8_init_8 : decode cX8_init 8 = .ok (.dup, 1) := by decide +kernel
theorem dX8_init_9 : decode cX8_init 9 = .ok (.invokespecial 11, 3) := by decide +kernel
theorem dX8_init_12 : decode cX8_init 12 = .ok (.putfield 12, 3) := by decide +kernel
theorem dX8_init_15 : decode cX8_init 15 = .ok (.aload_n 0, 1) := by decide +kernel
theorem dX8_init_16 : decode cX8_init 16 = .ok (.new 9, 3) := by decide +kernel
theorem dX8_init_19 : decode cX8_init 19 = .ok (.dup, 1) := by decide +kernel
theorem dX8_init_20 : decode cX8_init 20 = .ok (.invokespecial 11, 3) := by decide +kernel
theorem dX8_init_23 : decode cX8_init 23 = .ok (.putfield 16, 3) := by decide +kernel
theorem dX8_init_26 : decode cX8_init 26 = .ok (.aload_n 0, 1) := by decide +kernel
theorem dX8_init_27 : decode cX8_init 27 = .ok (.new 9, 3) := by decide +kernel
theorem dX8_init_30 : decode cX8_init 30 = .ok (.dup, 1) := by decide +kernel
theorem dX8_init_31 : decode cX8_init 31 = .ok (.invokespecial 11, 3) := by decide +kernel
theorem dX8_init_34 : decode cX8_init 34 = .ok (.putfield 19, 3) := by decide +kernel
theorem dX8_init_37 : decode cX8_init 37 = .ok (.aload_n 0, 1) := by decide +kernel
theorem dX8_init_38 : decode cX8_init 38 = .ok (.iconst 0, 1) := by decide +kernel
theorem dX8_init_39 : decode cX8_init 39 = .ok (.putfield 22, 3) := by decide +kernel
theorem dX8_init_42 : decode cX8_init 42 = .ok (.aload_n 0, 1) := by decide +kernel
theorem dX8_init_43 : decode cX8_init 43 = .ok (.new 26, 3) := by decide +kernel
theorem dX8_init_46 : decode cX8_init 46 = .ok (.dup, 1) := by decide +kernel
theorem dX8_init_47 : decode cX8_init 47 = .ok (.invokespecial 28, 3) := by decide +kernel
theorem dX8_init_50 : decode cX8_init 50 = .ok (.putfield 29, 3) := by decide +kernel
theorem dX8_init_53 : decode cX8_init 53 = .ok (.aload_n 0, 1) := by decide +kernel
theorem dX8_init_54 : decode cX8_init 54 = .ok (.new 33, 3) := by decide +kernel
theorem dX8_init_57 : decode cX8_init 57 = .ok (.dup, 1) := by decide +kernel
theorem dX8_init_58 : decode cX8_init 58 = .ok (.invokespecial 35, 3) := by decide +kernel
theorem dX8_init_61 : decode cX8_init 61 = .ok (.putfield 36, 3) := by decide +kernel
theorem dX8_init_64 : decode cX8_init 64 = .ok (.aload_n 0, 1) := by decide +kernel
theorem dX8_init_65 : decode cX8_init 65 = .ok (.new 40, 3) := by decide +kernel
theorem dX8_init_68 : decode cX8_init 68 = .ok (.dup, 1) := by decide +kernel
theorem dX8_init_69 : decode cX8_init 69 = .ok (.invokespecial 42, 3) := by decide +kernel
theorem dX8_init_72 : decode cX8_init 72 = .ok (.putfield 43, 3) := by decide +kernel
theorem dX8_init_75 : decode cX8_init 75 = .ok (.aload_n 0, 1) := by decide +kernel
theorem dX8_init_76 : decode cX8_init 76 = .ok (.new 47, 3) := by decide +kernel
theorem dX8_init_79 : decode cX8_init 79 = .ok (.dup, 1) := by decide +kernel
theorem dX8_init_80 : decode cX8_init 80 = .ok (.invokespecial 49, 3) := by decide +kernel
theorem dX8_init_83 : decode cX8_init 83 = .ok (.putfield 50, 3) := by decide +kernel
theorem dX8_init_86 : decode cX8_init 86 = .ok (.aload_n 0, 1) := by decide +kernel
theorem dX8_init_87 : decode cX8_init 87 = .ok (.iconst (-1), 1) := by decide +kernel
theorem dX8_init_88 : decode cX8_init 88 = .ok (.putfield 54, 3) := by decide +kernel
theorem dX8_init_91 : decode cX8_init 91 = .ok (.aload_n 0, 1) := by decide +kernel
theorem dX8_init_92 : decode cX8_init 92 = .ok (.iconst (-1), 1) := by decide +kernel
theorem dX8_init_93 : decode cX8_init 93 = .ok (.putfield 58, 3) := by decide +kernel
theorem dX8_init_96 : decode cX8_init 96 = .ok (.return_, 1) := by decide +kernel
theorem dX8_addSection_0 : decode cX8_addSection 0 = .ok (.aload_n 0, 1) := by decide +kernel
theorem dX8_addSection_1 : decode cX8_addSection 1 = .ok (.getfield 29, 3) := by decide +kernel
theorem dX8_addSection_4 : decode cX8_addSection 4 = .ok (.aload_n 0, 1) := by decide +kernel
theorem dX8_addSection_5 : decode cX8_addSection 5 = .ok (.getfield 12, 3) := by decide +kernel
theorem dX8_addSection_8 : decode cX8_addSection 8 = .ok (.invokevirtual 61, 3) := by decide +kernel
theorem dX8_addSection_11 : decode cX8_addSection 11 = .ok (.aload_n 0, 1) := by decide +kernel
theorem dX8_addSection_12 : decode cX8_addSection 12 = .ok (.aload_n 0, 1) := by decide +kernel
theorem dX8_addSection_13 : decode cX8_addSection 13 = .ok (.getfield 12, 3) := by decide +kernel
theorem dX8_addSection_16 : decode cX8_addSection 16 = .ok (.iload_n 1, 1) := by decide +kernel
theorem dX8_addSection_17 : decode cX8_addSection 17 = .ok (.iload_n 2, 1) := by decide +kernel
theorem dX8_addSection_18 : decode cX8_addSection 18 = .ok (.iload_n 3, 1) := by decide +kernel
theorem dX8_addSection_19 : decode cX8_addSection 19 = .ok (.invokevirtual 65, 3) := by decide +kernel
theorem dX8_addSection_22 : decode cX8_addSection 22 = .ok (.invokevirtual 69, 3) := by decide +kernel
theorem dX8_addSection_25 : decode cX8_addSection 25 = .ok (.ireturn, 1) := by decide +kernel
theorem dX8_removeSection_0 : decode cX8_removeSection 0 = .ok (.aload_n 0, 1) := by decide +kernel
theorem dX8_removeSection_1 : decode cX8_removeSection 1 = .ok (.getfield 29, 3) := by decide +kernel
theorem dX8_removeSection_4 : decode cX8_removeSection 4 = .ok (.aload_n 0, 1) := by decide +kernel
theorem dX8_removeSection_5 : decode cX8_removeSection 5 = .ok (.getfield 12, 3) := by decide +kernel
theorem dX8_removeSection_8 : decode cX8_removeSection 8 = .ok (.invokevirtual 61, 3) := by decide +kernel
theorem dX8_removeSection_11 : decode cX8_removeSection 11 = .ok (.aload_n 0, 1) := by decide +kernel
theorem dX8_removeSection_12 : decode cX8_removeSection 12 = .ok (.aload_n 0, 1) := by decide +kernel
theorem dX8_removeSection_13 : decode cX8_removeSection 13 = .ok (.getfield 12, 3) := by decide +kernel
theorem dX8_removeSection_16 : decode cX8_removeSection 16 = .ok (.iload_n 1, 1) := by decide +kernel
theorem dX8_removeSection_17 : decode cX8_removeSection 17 = .ok (.invokevirtual 73, 3) := by decide +kernel
theorem dX8_removeSection_20 : decode cX8_removeSection 20 = .ok (.invokevirtual 69, 3) := by decide +kernel
theorem dX8_removeSection_23 : decode cX8_removeSection 23 = .ok (.ireturn, 1) := by decide +kernel
theorem dX8_setNote_0 : decode cX8_setNote 0 = .ok (.aload_n 0, 1) := by decide +kernel
theorem dX8_setNote_1 : decode cX8_setNote 1 = .ok (.getfield 29, 3) := by decide +kernel
theorem dX8_setNote_4 : decode cX8_setNote 4 = .ok (.aload_n 0, 1) := by decide +kernel
theorem dX8_setNote_5 : decode cX8_setNote 5 = .ok (.getfield 12, 3) := by decide +kernel
theorem dX8_setNote_8 : decode cX8_setNote 8 = .ok (.invokevirtual 61, 3) := by decide +kernel
theorem dX8_setNote_11 : decode cX8_setNote 11 = .ok (.aload_n 0, 1) := by decide +kernel
theorem dX8_setNote_12 : decode cX8_setNote 12 = .ok (.aload_n 0, 1) := by decide +kernel
theorem dX8_setNote_13 : decode cX8_setNote 13 = .ok (.getfield 12, 3) := by decide +kernel
theorem dX8_setNote_16 : decode cX8_setNote 16 = .ok (.iload_n 1, 1) := by decide +kernel
theorem dX8_setNote_17 : decode cX8_setNote 17 = .ok (.iload_n 2, 1) := by decide +kernel
theorem dX8_setNote_18 : decode cX8_setNote 18 = .ok (.iload_n 3, 1) := by decide +kernel
theorem dX8_setNote_19 : decode cX8_setNote 19 = .ok (.iload 4, 2) := by decide +kernel
theorem dX8_setNote_21 : decode cX8_setNote 21 = .ok (.invokevirtual 76, 3) := by decide +kernel
theorem dX8_setNote_24 : decode cX8_setNote 24 = .ok (.invokevirtual 69, 3) := by decide +kernel
theorem dX8_setNote_27 : decode cX8_setNote 27 = .ok (.ireturn, 1) := by decide +kernel
theorem dX8_setMasked_0 : decode cX8_setMasked 0 = .ok (.aload_n 0, 1) := by decide +kernel
theorem dX8_setMasked_1 : decode cX8_setMasked 1 = .ok (.getfield 29, 3) := by decide +kernel
theorem dX8_setMasked_4 : decode cX8_setMasked 4 = .ok (.aload_n 0, 1) := by decide +kernel
theorem dX8_setMasked_5 : decode cX8_setMasked 5 = .ok (.getfield 12, 3) := by decide +kernel
theorem dX8_setMasked_8 : decode cX8_setMasked 8 = .ok (.invokevirtual 61, 3) := by decide +kernel
theorem dX8_setMasked_11 : decode cX8_setMasked 11 = .ok (.aload_n 0, 1) := by decide +kernel
theorem dX8_setMasked_12 : decode cX8_setMasked 12 = .ok (.aload_n 0, 1) := by decide +kernel
theorem dX8_setMasked_13 : decode cX8_setMasked 13 = .ok (.getfield 12, 3) := by decide +kernel
theorem dX8_setMasked_16 : decode cX8_setMasked 16 = .ok (.iload_n 1, 1) := by decide +kernel
theorem dX8_setMasked_17 : decode cX8_setMasked 17 = .ok (.iload_n 2, 1) := by decide +kernel
theorem dX8_setMasked_18 : decode cX8_setMasked 18 = .ok (.iload_n 3, 1) := by decide +kernel
theorem dX8_setMasked_19 : decode cX8_setMasked 19 = .ok (.invokevirtual 80, 3) := by decide +kernel
theorem dX8_setMasked_22 : decode cX8_setMasked 22 = .ok (.invokevirtual 69, 3) := by decide +kernel
theorem dX8_setMasked_25 : decode cX8_setMasked 25 = .ok (.ifCond .eq 7, 3) := by decide +kernel
theorem dX8_setMasked_28 : decode cX8_setMasked 28 = .ok (.iconst 1, 1) := by decide +kernel
theorem dX8_setMasked_29 : decode cX8_setMasked 29 = .ok (.goto 4, 3) := by decide +kernel
theorem dX8_setMasked_32 : decode cX8_setMasked 32 = .ok (.iconst 0, 1) := by decide +kernel
theorem dX8_setMasked_33 : decode cX8_setMasked 33 = .ok (.ireturn, 1) := by decide +kernel
theorem dX8_transpose_0 : decode cX8_transpose 0 = .ok (.aload_n 0, 1) := by decide +kernel
theorem dX8_transpose_1 : decode cX8_transpose 1 = .ok (.getfield 29, 3) := by decide +kernel
theorem dX8_transpose_4 : decode cX8_transpose 4 = .ok (.aload_n 0, 1) := by decide +kernel
theorem dX8_transpose_5 : decode cX8_transpose 5 = .ok (.getfield 12, 3) := by decide +kernel
theorem dX8_transpose_8 : decode cX8_transpose 8 = .ok (.invokevirtual 61, 3) := by decide +kernel
theorem dX8_transpose_11 : decode cX8_transpose 11 = .ok (.aload_n 0, 1) := by decide +kernel
theorem dX8_transpose_12 : decode cX8_transpose 12 = .ok (.aload_n 0, 1) := by decide +kernel
theorem dX8_transpose_13 : decode cX8_transpose 13 = .ok (.getfield 12, 3) := by decide +kernel
theorem dX8_transpose_16 : decode cX8_transpose 16 = .ok (.iload_n 1, 1) := by decide +kernel
theorem dX8_transpose_17 : decode cX8_transpose 17 = .ok (.invokevirtual 84, 3) := by decide +kernel
theorem dX8_transpose_20 : decode cX8_transpose 20 = .ok (.invokevirtual 69, 3) := by decide +kernel
theorem dX8_transpose_23 : decode cX8_transpose 23 = .ok (.ireturn, 1) := by decide +kernel
theorem dX8_reverse_0 : decode cX8_reverse 0 = .ok (.aload_n 0, 1) := by decide +kernel
theorem dX8_reverse_1 : decode cX8_reverse 1 = .ok (.getfield 29, 3) := by decide +kernel
theorem dX8_reverse_4 : decode cX8_reverse 4 = .ok (.aload_n 0, 1) := by decide +kernel
theorem dX8_reverse_5 : decode cX8_reverse 5 = .ok (.getfield 12, 3) := by decide +kernel
theorem dX8_reverse_8 : decode cX8_reverse 8 = .ok (.invokevirtual 61, 3) := by decide +kernel
theorem dX8_reverse_11 : decode cX8_reverse 11 = .ok (.aload_n 0, 1) := by decide +kernel
theorem dX8_reverse_12 : decode cX8_reverse 12 = .ok (.aload_n 0, 1) := by decide +kernel
theorem dX8_reverse_13 : decode cX8_reverse 13 = .ok (.getfield 12, 3) := by decide +kernel
theorem dX8_reverse_16 : decode cX8_reverse 16 = .ok (.iload_n 1, 1) := by decide +kernel
theorem dX8_reverse_17 : decode cX8_reverse 17 = .ok (.invokevirtual 87, 3) := by decide +kernel
theorem dX8_reverse_20 : decode cX8_reverse 20 = .ok (.invokevirtual 69, 3) := by decide +kernel
theorem dX8_reverse_23 : decode cX8_reverse 23 = .ok (.ireturn, 1) := by decide +kernel
theorem dX8_raise_0 : decode cX8_raise 0 = .ok (.aload_n 0, 1) := by decide +kernel
theorem dX8_raise_1 : decode cX8_raise 1 = .ok (.getfield 29, 3) := by decide +kernel
theorem dX8_raise_4 : decode cX8_raise 4 = .ok (.aload_n 0, 1) := by decide +kernel
theorem dX8_raise_5 : decode cX8_raise 5 = .ok (.getfield 12, 3) := by decide +kernel
theorem dX8_raise_8 : decode cX8_raise 8 = .ok (.invokevirtual 61, 3) := by decide +kernel
theorem dX8_raise_11 : decode cX8_raise 11 = .ok (.aload_n 0, 1) := by decide +kernel
theorem dX8_raise_12 : decode cX8_raise 12 = .ok (.aload_n 0, 1) := by decide +kernel
theorem dX8_raise_13 : decode cX8_raise 13 = .ok (.getfield 12, 3) := by decide +kernel
theorem dX8_raise_16 : decode cX8_raise 16 = .ok (.iload_n 1, 1) := by decide +kernel
theorem dX8_raise_17 : decode cX8_raise 17 = .ok (.iload_n 2, 1) := by decide +kernel
theorem dX8_raise_18 : decode cX8_raise 18 = .ok (.invokevirtual 90, 3) := by decide +kernel
theorem dX8_raise_21 : decode cX8_raise 21 = .ok (.invokevirtual 69, 3) := by decide +kernel
theorem dX8_raise_24 : decode cX8_raise 24 = .ok (.ireturn, 1) := by decide +kernel
theorem dX8_setTempo_0 : decode cX8_setTempo 0 = .ok (.aload_n 0, 1) := by decide +kernel
theorem dX8_setTempo_1 : decode cX8_setTempo 1 = .ok (.getfield 29, 3) := by decide +kernel
theorem dX8_setTempo_4 : decode cX8_setTempo 4 = .ok (.aload_n 0, 1) := by decide +kernel
theorem dX8_setTempo_5 : decode cX8_setTempo 5 = .ok (.getfield 12, 3) := by decide +kernel
theorem dX8_setTempo_8 : decode cX8_setTempo 8 = .ok (.invokevirtual 61, 3) := by decide +kernel
theorem dX8_setTempo_11 : decode cX8_setTempo 11 = .ok (.aload_n 0, 1) := by decide +kernel
theorem dX8_setTempo_12 : decode cX8_setTempo 12 = .ok (.aload_n 0, 1) := by decide +kernel
theorem dX8_setTempo_13 : decode cX8_setTempo 13 = .ok (.getfield 12, 3) := by decide +kernel
theorem dX8_setTempo_16 : decode cX8_setTempo 16 = .ok (.iload_n 1, 1) := by decide +kernel
theorem dX8_setTempo_17 : decode cX8_setTempo 17 = .ok (.invokevirtual 94, 3) := by decide +kernel
theorem dX8_setTempo_20 : decode cX8_setTempo 20 = .ok (.invokevirtual 69, 3) := by decide +kernel
theorem dX8_setTempo_23 : decode cX8_setTempo 23 = .ok (.ireturn, 1) := by decide +kernel
theorem dX8_setLimit_0 : decode cX8_setLimit 0 = .ok (.aload_n 0, 1) := by decide +kernel
theorem dX8_setLimit_1 : decode cX8_setLimit 1 = .ok (.getfield 29, 3) := by decide +kernel
theorem dX8_setLimit_4 : decode cX8_setLimit 4 = .ok (.aload_n 0, 1) := by decide +kernel
theorem dX8_setLimit_5 : decode cX8_setLimit 5 = .ok (.getfield 12, 3) := by decide +kernel
theorem dX8_setLimit_8 : decode cX8_setLimit 8 = .ok (.invokevirtual 61, 3) := by decide +kernel
theorem dX8_setLimit_11 : decode cX8_setLimit 11 = .ok (.aload_n 0, 1) := by decide +kernel
theorem dX8_setLimit_12 : decode cX8_setLimit 12 = .ok (.aload_n 0, 1) := by decide +kernel
theorem dX8_setLimit_13 : decode cX8_setLimit 13 = .ok (.getfield 12, 3) := by decide +kernel
theorem dX8_setLimit_16 : decode cX8_setLimit 16 = .ok (.iload_n 1, 1) := by decide +kernel
theorem dX8_setLimit_17 : decode cX8_setLimit 17 = .ok (.invokevirtual 97, 3) := by decide +kernel
theorem dX8_setLimit_20 : decode cX8_setLimit 20 = .ok (.invokevirtual 69, 3) := by decide +kernel
theorem dX8_setLimit_23 : decode cX8_setLimit 23 = .ok (.ireturn, 1) := by decide +kernel
theorem dX8_conductWave_0 : decode cX8_conductWave 0 = .ok (.aload_n 0, 1) := by decide +kernel
theorem dX8_conductWave_1 : decode cX8_conductWave 1 = .ok (.getfield 29, 3) := by decide +kernel
theorem dX8_conductWave_4 : decode cX8_conductWave 4 = .ok (.aload_n 0, 1) := by decide +kernel
theorem dX8_conductWave_5 : decode cX8_conductWave 5 = .ok (.getfield 12, 3) := by decide +kernel
theorem dX8_conductWave_8 : decode cX8_conductWave 8 = .ok (.invokevirtual 61, 3) := by decide +kernel
theorem dX8_conductWave_11 : decode cX8_conductWave 11 = .ok (.aload_n 0, 1) := by decide +kernel
theorem dX8_conductWave_12 : decode cX8_conductWave 12 = .ok (.aload_n 0, 1) := by decide +kernel
theorem dX8_conductWave_13 : decode cX8_conductWave 13 = .ok (.getfield 12, 3) := by decide +kernel
theorem dX8_conductWave_16 : decode cX8_conductWave 16 = .ok (.aload_n 0, 1) := by decide +kernel
theorem dX8_conductWave_17 : decode cX8_conductWave 17 = .ok (.getfield 12, 3) := by decide +kernel
theorem dX8_conductWave_20 : decode cX8_conductWave 20 = .ok (.getfield 100, 3) := by decide +kernel
theorem dX8_conductWave_23 : decode cX8_conductWave 23 = .ok (.invokevirtual 103, 3) := by decide +kernel
theorem dX8_conductWave_26 : decode cX8_conductWave 26 = .ok (.invokevirtual 69, 3) := by decide +kernel
theorem dX8_conductWave_29 : decode cX8_conductWave 29 = .ok (.ireturn, 1) := by decide +kernel
theorem dX8_conductBeats_0 : decode cX8_conductBeats 0 = .ok (.aload_n 0, 1) := by decide +kernel
theorem dX8_conductBeats_1 : decode cX8_conductBeats 1 = .ok (.getfield 29, 3) := by decide +kernel
theorem dX8_conductBeats_4 : decode cX8_conductBeats 4 = .ok (.aload_n 0, 1) := by decide +kernel
theorem dX8_conductBeats_5 : decode cX8_conductBeats 5 = .ok (.getfield 12, 3) := by decide +kernel
theorem dX8_conductBeats_8 : decode cX8_conductBeats 8 = .ok (.invokevirtual 61, 3) := by decide +kernel
theorem dX8_conductBeats_11 : decode cX8_conductBeats 11 = .ok (.aload_n 0, 1) := by decide +kernel
theorem dX8_conductBeats_12 : decode cX8_conductBeats 12 = .ok (.iload_n 1, 1) := by decide +kernel
theorem dX8_conductBeats_13 : decode cX8_conductBeats 13 = .ok (.invokestatic 106, 3) := by decide +kernel
theorem dX8_conductBeats_16 : decode cX8_conductBeats 16 = .ok (.ifCond .eq 14, 3) := by decide +kernel
theorem dX8_conductBeats_19 : decode cX8_conductBeats 19 = .ok (.aload_n 0, 1) := by decide +kernel
theorem dX8_conductBeats_20 : decode cX8_conductBeats 20 = .ok (.getfield 12, 3) := by decide +kernel
theorem dX8_conductBeats_23 : decode cX8_conductBeats 23 = .ok (.iload_n 1, 1) := by decide +kernel
theorem dX8_conductBeats_24 : decode cX8_conductBeats 24 = .ok (.invokevirtual 103, 3) := by decide +kernel
theorem dX8_conductBeats_27 : decode cX8_conductBeats 27 = .ok (.goto 5, 3) := by decide +kernel
theorem dX8_conductBeats_30 : decode cX8_conductBeats 30 = .ok (.bipush (-2), 2) := by decide +kernel
theorem dX8_conductBeats_32 : decode cX8_conductBeats 32 = .ok (.invokevirtual 69, 3) := by decide +kernel
theorem dX8_conductBeats_35 : decode cX8_conductBeats 35 = .ok (.ireturn, 1) := by decide +kernel
theorem dX8_beatCount_0 : decode cX8_beatCount 0 = .ok (.aload_n 0, 1) := by decide +kernel
theorem dX8_beatCount_1 : decode cX8_beatCount 1 = .ok (.getfield 12, 3) := by decide +kernel
theorem dX8_beatCount_4 : decode cX8_beatCount 4 = .ok (.getfield 110, 3) := by decide +kernel
theorem dX8_beatCount_7 : decode cX8_beatCount 7 = .ok (.ireturn, 1) := by decide +kernel
theorem dX8_sectionCount_0 : decode cX8_sectionCount 0 = .ok (.aload_n 0, 1) := by decide +kernel
theorem dX8_sectionCount_1 : decode cX8_sectionCount 1 = .ok (.getfield 12, 3) := by decide +kernel
theorem dX8_sectionCount_4 : decode cX8_sectionCount 4 = .ok (.getfield 113, 3) := by decide +kernel
theorem dX8_sectionCount_7 : decode cX8_sectionCount 7 = .ok (.ireturn, 1) := by decide +kernel
theorem dX8_tempo_0 : decode cX8_tempo 0 = .ok (.aload_n 0, 1) := by decide +kernel
theorem dX8_tempo_1 : decode cX8_tempo 1 = .ok (.getfield 12, 3) := by decide +kernel
theorem dX8_tempo_4 : decode cX8_tempo 4 = .ok (.getfield 100, 3) := by decide +kernel
theorem dX8_tempo_7 : decode cX8_tempo 7 = .ok (.ireturn, 1) := by decide +kernel
theorem dX8_limit_0 : decode cX8_limit 0 = .ok (.aload_n 0, 1) := by decide +kernel
theorem dX8_limit_1 : decode cX8_limit 1 = .ok (.getfield 12, 3) := by decide +kernel
theorem dX8_limit_4 : decode cX8_limit 4 = .ok (.getfield 116, 3) := by decide +kernel
theorem dX8_limit_7 : decode cX8_limit 7 = .ok (.ireturn, 1) := by decide +kernel
theorem dX8_kind_0 : decode cX8_kind 0 = .ok (.aload_n 0, 1) := by decide +kernel
theorem dX8_kind_1 : decode cX8_kind 1 = .ok (.iload_n 1, 1) := by decide +kernel
theorem dX8_kind_2 : decode cX8_kind 2 = .ok (.invokevirtual 119, 3) := by decide +kernel
theorem dX8_kind_5 : decode cX8_kind 5 = .ok (.getfield 123, 3) := by decide +kernel
theorem dX8_kind_8 : decode cX8_kind 8 = .ok (.ireturn, 1) := by decide +kernel
theorem dX8_rows_0 : decode cX8_rows 0 = .ok (.aload_n 0, 1) := by decide +kernel
theorem dX8_rows_1 : decode cX8_rows 1 = .ok (.iload_n 1, 1) := by decide +kernel
theorem dX8_rows_2 : decode cX8_rows 2 = .ok (.invokevirtual 119, 3) := by decide +kernel
theorem dX8_rows_5 : decode cX8_rows 5 = .ok (.getfield 127, 3) := by decide +kernel
theorem dX8_rows_8 : decode cX8_rows 8 = .ok (.ireturn, 1) := by decide +kernel
theorem dX8_columns_0 : decode cX8_columns 0 = .ok (.aload_n 0, 1) := by decide +kernel
theorem dX8_columns_1 : decode cX8_columns 1 = .ok (.iload_n 1, 1) := by decide +kernel
theorem dX8_columns_2 : decode cX8_columns 2 = .ok (.invokevirtual 119, 3) := by decide +kernel
theorem dX8_columns_5 : decode cX8_columns 5 = .ok (.getfield 130, 3) := by decide +kernel
theorem dX8_columns_8 : decode cX8_columns 8 = .ok (.ireturn, 1) := by decide +kernel
theorem dX8_note_0 : decode cX8_note 0 = .ok (.aload_n 0, 1) := by decide +kernel
theorem dX8_note_1 : decode cX8_note 1 = .ok (.iload_n 1, 1) := by decide +kernel
theorem dX8_note_2 : decode cX8_note 2 = .ok (.invokevirtual 119, 3) := by decide +kernel
theorem dX8_note_5 : decode cX8_note 5 = .ok (.astore 4, 2) := by decide +kernel
theorem dX8_note_7 : decode cX8_note 7 = .ok (.aload 4, 2) := by decide +kernel
theorem dX8_note_9 : decode cX8_note 9 = .ok (.iload_n 2, 1) := by decide +kernel
theorem dX8_note_10 : decode cX8_note 10 = .ok (.iload_n 3, 1) := by decide +kernel
theorem dX8_note_11 : decode cX8_note 11 = .ok (.invokevirtual 133, 3) := by decide +kernel
theorem dX8_note_14 : decode cX8_note 14 = .ok (.ifCond .ne 13, 3) := by decide +kernel
theorem dX8_note_17 : decode cX8_note 17 = .ok (.new 137, 3) := by decide +kernel
theorem dX8_note_20 : decode cX8_note 20 = .ok (.dup, 1) := by decide +kernel
theorem dX8_note_21 : decode cX8_note 21 = .ok (.ldc 139, 2) := by decide +kernel
theorem dX8_note_23 : decode cX8_note 23 = .ok (.invokespecial 141, 3) := by decide +kernel
theorem dX8_note_26 : decode cX8_note 26 = .ok (.athrow, 1) := by decide +kernel
theorem dX8_note_27 : decode cX8_note 27 = .ok (.aload 4, 2) := by decide +kernel
theorem dX8_note_29 : decode cX8_note 29 = .ok (.iload_n 2, 1) := by decide +kernel
theorem dX8_note_30 : decode cX8_note 30 = .ok (.iload_n 3, 1) := by decide +kernel
theorem dX8_note_31 : decode cX8_note 31 = .ok (.invokevirtual 144, 3) := by decide +kernel
theorem dX8_note_34 : decode cX8_note 34 = .ok (.ireturn, 1) := by decide +kernel
theorem dX8_isMasked_0 : decode cX8_isMasked 0 = .ok (.aload_n 0, 1) := by decide +kernel
theorem dX8_isMasked_1 : decode cX8_isMasked 1 = .ok (.iload_n 1, 1) := by decide +kernel
theorem dX8_isMasked_2 : decode cX8_isMasked 2 = .ok (.invokevirtual 119, 3) := by decide +kernel
theorem dX8_isMasked_5 : decode cX8_isMasked 5 = .ok (.astore_n 3, 1) := by decide +kernel
theorem dX8_isMasked_6 : decode cX8_isMasked 6 = .ok (.iload_n 2, 1) := by decide +kernel
theorem dX8_isMasked_7 : decode cX8_isMasked 7 = .ok (.invokestatic 147, 3) := by decide +kernel
theorem dX8_isMasked_10 : decode cX8_isMasked 10 = .ok (.ifCond .ne 13, 3) := by decide +kernel
theorem dX8_isMasked_13 : decode cX8_isMasked 13 = .ok (.new 150, 3) := by decide +kernel
theorem dX8_isMasked_16 : decode cX8_isMasked 16 = .ok (.dup, 1) := by decide +kernel
theorem dX8_isMasked_17 : decode cX8_isMasked 17 = .ok (.ldc 152, 2) := by decide +kernel
theorem dX8_isMasked_19 : decode cX8_isMasked 19 = .ok (.invokespecial 154, 3) := by decide +kernel
theorem dX8_isMasked_22 : decode cX8_isMasked 22 = .ok (.athrow, 1) := by decide +kernel
theorem dX8_isMasked_23 : decode cX8_isMasked 23 = .ok (.aload_n 3, 1) := by decide +kernel
theorem dX8_isMasked_24 : decode cX8_isMasked 24 = .ok (.iload_n 2, 1) := by decide +kernel
theorem dX8_isMasked_25 : decode cX8_isMasked 25 = .ok (.invokevirtual 155, 3) := by decide +kernel
theorem dX8_isMasked_28 : decode cX8_isMasked 28 = .ok (.ireturn, 1) := by decide +kernel
theorem dX8_fatigue_0 : decode cX8_fatigue 0 = .ok (.aload_n 0, 1) := by decide +kernel
theorem dX8_fatigue_1 : decode cX8_fatigue 1 = .ok (.iload_n 1, 1) := by decide +kernel
theorem dX8_fatigue_2 : decode cX8_fatigue 2 = .ok (.invokevirtual 119, 3) := by decide +kernel
theorem dX8_fatigue_5 : decode cX8_fatigue 5 = .ok (.getfield 158, 3) := by decide +kernel
theorem dX8_fatigue_8 : decode cX8_fatigue 8 = .ok (.ireturn, 1) := by decide +kernel
theorem dX8_restingBeats_0 : decode cX8_restingBeats 0 = .ok (.aload_n 0, 1) := by decide +kernel
theorem dX8_restingBeats_1 : decode cX8_restingBeats 1 = .ok (.iload_n 1, 1) := by decide +kernel
theorem dX8_restingBeats_2 : decode cX8_restingBeats 2 = .ok (.invokevirtual 119, 3) := by decide +kernel
theorem dX8_restingBeats_5 : decode cX8_restingBeats 5 = .ok (.getfield 161, 3) := by decide +kernel
theorem dX8_restingBeats_8 : decode cX8_restingBeats 8 = .ok (.ireturn, 1) := by decide +kernel
theorem dX8_isSymmetric_0 : decode cX8_isSymmetric 0 = .ok (.aload_n 0, 1) := by decide +kernel
theorem dX8_isSymmetric_1 : decode cX8_isSymmetric 1 = .ok (.iload_n 1, 1) := by decide +kernel
theorem dX8_isSymmetric_2 : decode cX8_isSymmetric 2 = .ok (.invokevirtual 119, 3) := by decide +kernel
theorem dX8_isSymmetric_5 : decode cX8_isSymmetric 5 = .ok (.astore_n 2, 1) := by decide +kernel
theorem dX8_isSymmetric_6 : decode cX8_isSymmetric 6 = .ok (.aload_n 0, 1) := by decide +kernel
theorem dX8_isSymmetric_7 : decode cX8_isSymmetric 7 = .ok (.getfield 36, 3) := by decide +kernel
theorem dX8_isSymmetric_10 : decode cX8_isSymmetric 10 = .ok (.aload_n 2, 1) := by decide +kernel
theorem dX8_isSymmetric_11 : decode cX8_isSymmetric 11 = .ok (.invokevirtual 164, 3) := by decide +kernel
theorem dX8_isSymmetric_14 : decode cX8_isSymmetric 14 = .ok (.aload_n 0, 1) := by decide +kernel
theorem dX8_isSymmetric_15 : decode cX8_isSymmetric 15 = .ok (.getfield 36, 3) := by decide +kernel
theorem dX8_isSymmetric_18 : decode cX8_isSymmetric 18 = .ok (.invokevirtual 168, 3) := by decide +kernel
theorem dX8_isSymmetric_21 : decode cX8_isSymmetric 21 = .ok (.aload_n 0, 1) := by decide +kernel
theorem dX8_isSymmetric_22 : decode cX8_isSymmetric 22 = .ok (.getfield 36, 3) := by decide +kernel
theorem dX8_isSymmetric_25 : decode cX8_isSymmetric 25 = .ok (.aload_n 2, 1) := by decide +kernel
theorem dX8_isSymmetric_26 : decode cX8_isSymmetric 26 = .ok (.invokevirtual 170, 3) := by decide +kernel
theorem dX8_isSymmetric_29 : decode cX8_isSymmetric 29 = .ok (.ireturn, 1) := by decide +kernel
theorem dX8_areAlike_0 : decode cX8_areAlike 0 = .ok (.aload_n 0, 1) := by decide +kernel
theorem dX8_areAlike_1 : decode cX8_areAlike 1 = .ok (.iload_n 1, 1) := by decide +kernel
theorem dX8_areAlike_2 : decode cX8_areAlike 2 = .ok (.invokevirtual 119, 3) := by decide +kernel
theorem dX8_areAlike_5 : decode cX8_areAlike 5 = .ok (.aload_n 0, 1) := by decide +kernel
theorem dX8_areAlike_6 : decode cX8_areAlike 6 = .ok (.iload_n 2, 1) := by decide +kernel
theorem dX8_areAlike_7 : decode cX8_areAlike 7 = .ok (.invokevirtual 119, 3) := by decide +kernel
theorem dX8_areAlike_10 : decode cX8_areAlike 10 = .ok (.invokevirtual 170, 3) := by decide +kernel
theorem dX8_areAlike_13 : decode cX8_areAlike 13 = .ok (.ireturn, 1) := by decide +kernel
theorem dX8_noteVolume_0 : decode cX8_noteVolume 0 = .ok (.iload_n 1, 1) := by decide +kernel
theorem dX8_noteVolume_1 : decode cX8_noteVolume 1 = .ok (.invokestatic 174, 3) := by decide +kernel
theorem dX8_noteVolume_4 : decode cX8_noteVolume 4 = .ok (.ifCond .lt 13, 3) := by decide +kernel
theorem dX8_noteVolume_7 : decode cX8_noteVolume 7 = .ok (.iload_n 2, 1) := by decide +kernel
theorem dX8_noteVolume_8 : decode cX8_noteVolume 8 = .ok (.ifCond .lt 9, 3) := by decide +kernel
theorem dX8_noteVolume_11 : decode cX8_noteVolume 11 = .ok (.iload_n 2, 1) := by decide +kernel
theorem dX8_noteVolume_12 : decode cX8_noteVolume 12 = .ok (.bipush 9, 2) := by decide +kernel
theorem dX8_noteVolume_14 : decode cX8_noteVolume 14 = .ok (.if_icmp .le 13, 3) := by decide +kernel
theorem dX8_noteVolume_17 : decode cX8_noteVolume 17 = .ok (.new 150, 3) := by decide +kernel
theorem dX8_noteVolume_20 : decode cX8_noteVolume 20 = .ok (.dup, 1) := by decide +kernel
theorem dX8_noteVolume_21 : decode cX8_noteVolume 21 = .ok (.ldc 178, 2) := by decide +kernel
theorem dX8_noteVolume_23 : decode cX8_noteVolume 23 = .ok (.invokespecial 154, 3) := by decide +kernel
theorem dX8_noteVolume_26 : decode cX8_noteVolume 26 = .ok (.athrow, 1) := by decide +kernel
theorem dX8_noteVolume_27 : decode cX8_noteVolume 27 = .ok (.iload_n 1, 1) := by decide +kernel
theorem dX8_noteVolume_28 : decode cX8_noteVolume 28 = .ok (.iload_n 2, 1) := by decide +kernel
theorem dX8_noteVolume_29 : decode cX8_noteVolume 29 = .ok (.invokestatic 180, 3) := by decide +kernel
theorem dX8_noteVolume_32 : decode cX8_noteVolume 32 = .ok (.ireturn, 1) := by decide +kernel
theorem dX8_columnVolume_0 : decode cX8_columnVolume 0 = .ok (.aload_n 0, 1) := by decide +kernel
theorem dX8_columnVolume_1 : decode cX8_columnVolume 1 = .ok (.iload_n 1, 1) := by decide +kernel
theorem dX8_columnVolume_2 : decode cX8_columnVolume 2 = .ok (.iload_n 2, 1) := by decide +kernel
theorem dX8_columnVolume_3 : decode cX8_columnVolume 3 = .ok (.invokevirtual 184, 3) := by decide +kernel
theorem dX8_columnVolume_6 : decode cX8_columnVolume 6 = .ok (.iload_n 2, 1) := by decide +kernel
theorem dX8_columnVolume_7 : decode cX8_columnVolume 7 = .ok (.invokevirtual 188, 3) := by decide +kernel
theorem dX8_columnVolume_10 : decode cX8_columnVolume 10 = .ok (.ireturn, 1) := by decide +kernel
theorem dX8_columnVolumeByTransposing_0 : decode cX8_columnVolumeByTransposing 0 = .ok (.aload_n 0, 1) := by decide +kernel
theorem dX8_columnVolumeByTransposing_1 : decode cX8_columnVolumeByTransposing 1 = .ok (.getfield 36, 3) := by decide +kernel
theorem dX8_columnVolumeByTransposing_4 : decode cX8_columnVolumeByTransposing 4 = .ok (.aload_n 0, 1) := by decide +kernel
theorem dX8_columnVolumeByTransposing_5 : decode cX8_columnVolumeByTransposing 5 = .ok (.iload_n 1, 1) := by decide +kernel
theorem dX8_columnVolumeByTransposing_6 : decode cX8_columnVolumeByTransposing 6 = .ok (.iload_n 2, 1) := by decide +kernel
theorem dX8_columnVolumeByTransposing_7 : decode cX8_columnVolumeByTransposing 7 = .ok (.invokevirtual 184, 3) := by decide +kernel
theorem dX8_columnVolumeByTransposing_10 : decode cX8_columnVolumeByTransposing 10 = .ok (.invokevirtual 164, 3) := by decide +kernel
theorem dX8_columnVolumeByTransposing_13 : decode cX8_columnVolumeByTransposing 13 = .ok (.aload_n 0, 1) := by decide +kernel
theorem dX8_columnVolumeByTransposing_14 : decode cX8_columnVolumeByTransposing 14 = .ok (.getfield 36, 3) := by decide +kernel
theorem dX8_columnVolumeByTransposing_17 : decode cX8_columnVolumeByTransposing 17 = .ok (.invokevirtual 168, 3) := by decide +kernel
theorem dX8_columnVolumeByTransposing_20 : decode cX8_columnVolumeByTransposing 20 = .ok (.aload_n 0, 1) := by decide +kernel
theorem dX8_columnVolumeByTransposing_21 : decode cX8_columnVolumeByTransposing 21 = .ok (.getfield 36, 3) := by decide +kernel
theorem dX8_columnVolumeByTransposing_24 : decode cX8_columnVolumeByTransposing 24 = .ok (.iload_n 2, 1) := by decide +kernel
theorem dX8_columnVolumeByTransposing_25 : decode cX8_columnVolumeByTransposing 25 = .ok (.invokevirtual 191, 3) := by decide +kernel
theorem dX8_columnVolumeByTransposing_28 : decode cX8_columnVolumeByTransposing 28 = .ok (.ireturn, 1) := by decide +kernel
theorem dX8_nextVolume_0 : decode cX8_nextVolume 0 = .ok (.aload_n 0, 1) := by decide +kernel
theorem dX8_nextVolume_1 : decode cX8_nextVolume 1 = .ok (.iload_n 1, 1) := by decide +kernel
theorem dX8_nextVolume_2 : decode cX8_nextVolume 2 = .ok (.invokevirtual 119, 3) := by decide +kernel
theorem dX8_nextVolume_5 : decode cX8_nextVolume 5 = .ok (.aload_n 0, 1) := by decide +kernel
theorem dX8_nextVolume_6 : decode cX8_nextVolume 6 = .ok (.getfield 12, 3) := by decide +kernel
theorem dX8_nextVolume_9 : decode cX8_nextVolume 9 = .ok (.getfield 110, 3) := by decide +kernel
theorem dX8_nextVolume_12 : decode cX8_nextVolume 12 = .ok (.invokevirtual 194, 3) := by decide +kernel
theorem dX8_nextVolume_15 : decode cX8_nextVolume 15 = .ok (.ireturn, 1) := by decide +kernel
theorem dX8_nextTotal_0 : decode cX8_nextTotal 0 = .ok (.iconst 0, 1) := by decide +kernel
theorem dX8_nextTotal_1 : decode cX8_nextTotal 1 = .ok (.istore_n 1, 1) := by decide +kernel
theorem dX8_nextTotal_2 : decode cX8_nextTotal 2 = .ok (.iconst 0, 1) := by decide +kernel
theorem dX8_nextTotal_3 : decode cX8_nextTotal 3 = .ok (.istore_n 2, 1) := by decide +kernel
theorem dX8_nextTotal_4 : decode cX8_nextTotal 4 = .ok (.iload_n 2, 1) := by decide +kernel
theorem dX8_nextTotal_5 : decode cX8_nextTotal 5 = .ok (.aload_n 0, 1) := by decide +kernel
theorem dX8_nextTotal_6 : decode cX8_nextTotal 6 = .ok (.getfield 12, 3) := by decide +kernel
theorem dX8_nextTotal_9 : decode cX8_nextTotal 9 = .ok (.getfield 113, 3) := by decide +kernel
theorem dX8_nextTotal_12 : decode cX8_nextTotal 12 = .ok (.if_icmp .ge 17, 3) := by decide +kernel
theorem dX8_nextTotal_15 : decode cX8_nextTotal 15 = .ok (.iload_n 1, 1) := by decide +kernel
theorem dX8_nextTotal_16 : decode cX8_nextTotal 16 = .ok (.aload_n 0, 1) := by decide +kernel
theorem dX8_nextTotal_17 : decode cX8_nextTotal 17 = .ok (.iload_n 2, 1) := by decide +kernel
theorem dX8_nextTotal_18 : decode cX8_nextTotal 18 = .ok (.invokevirtual 197, 3) := by decide +kernel
theorem dX8_nextTotal_21 : decode cX8_nextTotal 21 = .ok (.iadd, 1) := by decide +kernel
theorem dX8_nextTotal_22 : decode cX8_nextTotal 22 = .ok (.istore_n 1, 1) := by decide +kernel
theorem dX8_nextTotal_23 : decode cX8_nextTotal 23 = .ok (.iinc 2 1, 3) := by decide +kernel
theorem dX8_nextTotal_26 : decode cX8_nextTotal 26 = .ok (.goto (-22), 3) := by decide +kernel
theorem dX8_nextTotal_29 : decode cX8_nextTotal 29 = .ok (.iload_n 1, 1) := by decide +kernel
theorem dX8_nextTotal_30 : decode cX8_nextTotal 30 = .ok (.ireturn, 1) := by decide +kernel
theorem dX8_period_0 : decode cX8_period 0 = .ok (.iconst 1, 1) := by decide +kernel
theorem dX8_period_1 : decode cX8_period 1 = .ok (.istore_n 1, 1) := by decide +kernel
theorem dX8_period_2 : decode cX8_period 2 = .ok (.iconst 0, 1) := by decide +kernel
theorem dX8_period_3 : decode cX8_period 3 = .ok (.istore_n 2, 1) := by decide +kernel
theorem dX8_period_4 : decode cX8_period 4 = .ok (.iload_n 2, 1) := by decide +kernel
theorem dX8_period_5 : decode cX8_period 5 = .ok (.aload_n 0, 1) := by decide +kernel
theorem dX8_period_6 : decode cX8_period 6 = .ok (.getfield 12, 3) := by decide +kernel
theorem dX8_period_9 : decode cX8_period 9 = .ok (.getfield 113, 3) := by decide +kernel
theorem dX8_period_12 : decode cX8_period 12 = .ok (.if_icmp .ge 19, 3) := by decide +kernel
theorem dX8_period_15 : decode cX8_period 15 = .ok (.iload_n 1, 1) := by decide +kernel
theorem dX8_period_16 : decode cX8_period 16 = .ok (.aload_n 0, 1) := by decide +kernel
theorem dX8_period_17 : decode cX8_period 17 = .ok (.iload_n 2, 1) := by decide +kernel
theorem dX8_period_18 : decode cX8_period 18 = .ok (.invokevirtual 200, 3) := by decide +kernel
theorem dX8_period_21 : decode cX8_period 21 = .ok (.invokestatic 202, 3) := by decide +kernel
theorem dX8_period_24 : decode cX8_period 24 = .ok (.istore_n 1, 1) := by decide +kernel
theorem dX8_period_25 : decode cX8_period 25 = .ok (.iinc 2 1, 3) := by decide +kernel
theorem dX8_period_28 : decode cX8_period 28 = .ok (.goto (-24), 3) := by decide +kernel
theorem dX8_period_31 : decode cX8_period 31 = .ok (.iload_n 1, 1) := by decide +kernel
theorem dX8_period_32 : decode cX8_period 32 = .ok (.ireturn, 1) := by decide +kernel
theorem dX8_periodBySearch_0 : decode cX8_periodBySearch 0 = .ok (.iconst 1, 1) := by decide +kernel
theorem dX8_periodBySearch_1 : decode cX8_periodBySearch 1 = .ok (.istore_n 1, 1) := by decide +kernel
theorem dX8_periodBySearch_2 : decode cX8_periodBySearch 2 = .ok (.iload_n 1, 1) := by decide +kernel
theorem dX8_periodBySearch_3 : decode cX8_periodBySearch 3 = .ok (.bipush 60, 2) := by decide +kernel
theorem dX8_periodBySearch_5 : decode cX8_periodBySearch 5 = .ok (.if_icmp .ge 19, 3) := by decide +kernel
theorem dX8_periodBySearch_8 : decode cX8_periodBySearch 8 = .ok (.aload_n 0, 1) := by decide +kernel
theorem dX8_periodBySearch_9 : decode cX8_periodBySearch 9 = .ok (.iload_n 1, 1) := by decide +kernel
theorem dX8_periodBySearch_10 : decode cX8_periodBySearch 10 = .ok (.invokevirtual 205, 3) := by decide +kernel
theorem dX8_periodBySearch_13 : decode cX8_periodBySearch 13 = .ok (.ifCond .eq 5, 3) := by decide +kernel
theorem dX8_periodBySearch_16 : decode cX8_periodBySearch 16 = .ok (.iload_n 1, 1) := by decide +kernel
theorem dX8_periodBySearch_17 : decode cX8_periodBySearch 17 = .ok (.ireturn, 1) := by decide +kernel
theorem dX8_periodBySearch_18 : decode cX8_periodBySearch 18 = .ok (.iinc 1 1, 3) := by decide +kernel
theorem dX8_periodBySearch_21 : decode cX8_periodBySearch 21 = .ok (.goto (-19), 3) := by decide +kernel
theorem dX8_periodBySearch_24 : decode cX8_periodBySearch 24 = .ok (.bipush 60, 2) := by decide +kernel
theorem dX8_periodBySearch_26 : decode cX8_periodBySearch 26 = .ok (.ireturn, 1) := by decide +kernel
theorem dX8_beatsUntilBreak_0 : decode cX8_beatsUntilBreak 0 = .ok (.aload_n 0, 1) := by decide +kernel
theorem dX8_beatsUntilBreak_1 : decode cX8_beatsUntilBreak 1 = .ok (.getfield 16, 3) := by decide +kernel
theorem dX8_beatsUntilBreak_4 : decode cX8_beatsUntilBreak 4 = .ok (.aload_n 0, 1) := by decide +kernel
theorem dX8_beatsUntilBreak_5 : decode cX8_beatsUntilBreak 5 = .ok (.getfield 12, 3) := by decide +kernel
theorem dX8_beatsUntilBreak_8 : decode cX8_beatsUntilBreak 8 = .ok (.invokevirtual 208, 3) := by decide +kernel
theorem dX8_beatsUntilBreak_11 : decode cX8_beatsUntilBreak 11 = .ok (.iconst 1, 1) := by decide +kernel
theorem dX8_beatsUntilBreak_12 : decode cX8_beatsUntilBreak 12 = .ok (.istore_n 1, 1) := by decide +kernel
theorem dX8_beatsUntilBreak_13 : decode cX8_beatsUntilBreak 13 = .ok (.iload_n 1, 1) := by decide +kernel
theorem dX8_beatsUntilBreak_14 : decode cX8_beatsUntilBreak 14 = .ok (.bipush 60, 2) := by decide +kernel
theorem dX8_beatsUntilBreak_16 : decode cX8_beatsUntilBreak 16 = .ok (.if_icmp .gt 28, 3) := by decide +kernel
theorem dX8_beatsUntilBreak_19 : decode cX8_beatsUntilBreak 19 = .ok (.aload_n 0, 1) := by decide +kernel
theorem dX8_beatsUntilBreak_20 : decode cX8_beatsUntilBreak 20 = .ok (.getfield 16, 3) := by decide +kernel
theorem dX8_beatsUntilBreak_23 : decode cX8_beatsUntilBreak 23 = .ok (.invokevirtual 210, 3) := by decide +kernel
theorem dX8_beatsUntilBreak_26 : decode cX8_beatsUntilBreak 26 = .ok (.aload_n 0, 1) := by decide +kernel
theorem dX8_beatsUntilBreak_27 : decode cX8_beatsUntilBreak 27 = .ok (.getfield 16, 3) := by decide +kernel
theorem dX8_beatsUntilBreak_30 : decode cX8_beatsUntilBreak 30 = .ok (.getfield 116, 3) := by decide +kernel
theorem dX8_beatsUntilBreak_33 : decode cX8_beatsUntilBreak 33 = .ok (.if_icmp .le 5, 3) := by decide +kernel
theorem dX8_beatsUntilBreak_36 : decode cX8_beatsUntilBreak 36 = .ok (.iload_n 1, 1) := by decide +kernel
theorem dX8_beatsUntilBreak_37 : decode cX8_beatsUntilBreak 37 = .ok (.ireturn, 1) := by decide +kernel
theorem dX8_beatsUntilBreak_38 : decode cX8_beatsUntilBreak 38 = .ok (.iinc 1 1, 3) := by decide +kernel
theorem dX8_beatsUntilBreak_41 : decode cX8_beatsUntilBreak 41 = .ok (.goto (-28), 3) := by decide +kernel
theorem dX8_beatsUntilBreak_44 : decode cX8_beatsUntilBreak 44 = .ok (.new 214, 3) := by decide +kernel
theorem dX8_beatsUntilBreak_47 : decode cX8_beatsUntilBreak 47 = .ok (.dup, 1) := by decide +kernel
theorem dX8_beatsUntilBreak_48 : decode cX8_beatsUntilBreak 48 = .ok (.ldc 216, 2) := by decide +kernel
theorem dX8_beatsUntilBreak_50 : decode cX8_beatsUntilBreak 50 = .ok (.invokespecial 218, 3) := by decide +kernel
theorem dX8_beatsUntilBreak_53 : decode cX8_beatsUntilBreak 53 = .ok (.athrow, 1) := by decide +kernel
theorem dX8_totalWithin_0 : decode cX8_totalWithin 0 = .ok (.iload_n 1, 1) := by decide +kernel
theorem dX8_totalWithin_1 : decode cX8_totalWithin 1 = .ok (.ifCond .lt 9, 3) := by decide +kernel
theorem dX8_totalWithin_4 : decode cX8_totalWithin 4 = .ok (.iload_n 1, 1) := by decide +kernel
theorem dX8_totalWithin_5 : decode cX8_totalWithin 5 = .ok (.bipush 60, 2) := by decide +kernel
theorem dX8_totalWithin_7 : decode cX8_totalWithin 7 = .ok (.if_icmp .le 13, 3) := by decide +kernel
theorem dX8_totalWithin_10 : decode cX8_totalWithin 10 = .ok (.new 150, 3) := by decide +kernel
theorem dX8_totalWithin_13 : decode cX8_totalWithin 13 = .ok (.dup, 1) := by decide +kernel
theorem dX8_totalWithin_14 : decode cX8_totalWithin 14 = .ok (.ldc 219, 2) := by decide +kernel
theorem dX8_totalWithin_16 : decode cX8_totalWithin 16 = .ok (.invokespecial 154, 3) := by decide +kernel
theorem dX8_totalWithin_19 : decode cX8_totalWithin 19 = .ok (.athrow, 1) := by decide +kernel
theorem dX8_totalWithin_20 : decode cX8_totalWithin 20 = .ok (.aload_n 0, 1) := by decide +kernel
theorem dX8_totalWithin_21 : decode cX8_totalWithin 21 = .ok (.getfield 16, 3) := by decide +kernel
theorem dX8_totalWithin_24 : decode cX8_totalWithin 24 = .ok (.aload_n 0, 1) := by decide +kernel
theorem dX8_totalWithin_25 : decode cX8_totalWithin 25 = .ok (.getfield 12, 3) := by decide +kernel
theorem dX8_totalWithin_28 : decode cX8_totalWithin 28 = .ok (.invokevirtual 208, 3) := by decide +kernel
theorem dX8_totalWithin_31 : decode cX8_totalWithin 31 = .ok (.aload_n 0, 1) := by decide +kernel
theorem dX8_totalWithin_32 : decode cX8_totalWithin 32 = .ok (.getfield 16, 3) := by decide +kernel
theorem dX8_totalWithin_35 : decode cX8_totalWithin 35 = .ok (.iload_n 1, 1) := by decide +kernel
theorem dX8_totalWithin_36 : decode cX8_totalWithin 36 = .ok (.invokevirtual 103, 3) := by decide +kernel
theorem dX8_totalWithin_39 : decode cX8_totalWithin 39 = .ok (.ireturn, 1) := by decide +kernel
theorem dX8_breakCount_0 : decode cX8_breakCount 0 = .ok (.aload_n 0, 1) := by decide +kernel
theorem dX8_breakCount_1 : decode cX8_breakCount 1 = .ok (.getfield 12, 3) := by decide +kernel
theorem dX8_breakCount_4 : decode cX8_breakCount 4 = .ok (.getfield 221, 3) := by decide +kernel
theorem dX8_breakCount_7 : decode cX8_breakCount 7 = .ok (.ireturn, 1) := by decide +kernel
theorem dX8_playedVolume_0 : decode cX8_playedVolume 0 = .ok (.aload_n 0, 1) := by decide +kernel
theorem dX8_playedVolume_1 : decode cX8_playedVolume 1 = .ok (.iload_n 1, 1) := by decide +kernel
theorem dX8_playedVolume_2 : decode cX8_playedVolume 2 = .ok (.invokevirtual 119, 3) := by decide +kernel
theorem dX8_playedVolume_5 : decode cX8_playedVolume 5 = .ok (.getfield 224, 3) := by decide +kernel
theorem dX8_playedVolume_8 : decode cX8_playedVolume 8 = .ok (.ireturn, 1) := by decide +kernel
theorem dX8_totalVolume_0 : decode cX8_totalVolume 0 = .ok (.aload_n 0, 1) := by decide +kernel
theorem dX8_totalVolume_1 : decode cX8_totalVolume 1 = .ok (.getfield 12, 3) := by decide +kernel
theorem dX8_totalVolume_4 : decode cX8_totalVolume 4 = .ok (.getfield 227, 3) := by decide +kernel
theorem dX8_totalVolume_7 : decode cX8_totalVolume 7 = .ok (.lreturn, 1) := by decide +kernel
theorem dX8_totalVolumeBySounds_0 : decode cX8_totalVolumeBySounds 0 = .ok (.aload_n 0, 1) := by decide +kernel
theorem dX8_totalVolumeBySounds_1 : decode cX8_totalVolumeBySounds 1 = .ok (.bipush 115, 2) := by decide +kernel
theorem dX8_totalVolumeBySounds_3 : decode cX8_totalVolumeBySounds 3 = .ok (.invokevirtual 231, 3) := by decide +kernel
theorem dX8_totalVolumeBySounds_6 : decode cX8_totalVolumeBySounds 6 = .ok (.aload_n 0, 1) := by decide +kernel
theorem dX8_totalVolumeBySounds_7 : decode cX8_totalVolumeBySounds 7 = .ok (.bipush 119, 2) := by decide +kernel
theorem dX8_totalVolumeBySounds_9 : decode cX8_totalVolumeBySounds 9 = .ok (.invokevirtual 231, 3) := by decide +kernel
theorem dX8_totalVolumeBySounds_12 : decode cX8_totalVolumeBySounds 12 = .ok (.ladd, 1) := by decide +kernel
theorem dX8_totalVolumeBySounds_13 : decode cX8_totalVolumeBySounds 13 = .ok (.aload_n 0, 1) := by decide +kernel
theorem dX8_totalVolumeBySounds_14 : decode cX8_totalVolumeBySounds 14 = .ok (.bipush 100, 2) := by decide +kernel
theorem dX8_totalVolumeBySounds_16 : decode cX8_totalVolumeBySounds 16 = .ok (.invokevirtual 231, 3) := by decide +kernel
theorem dX8_totalVolumeBySounds_19 : decode cX8_totalVolumeBySounds 19 = .ok (.ladd, 1) := by decide +kernel
theorem dX8_totalVolumeBySounds_20 : decode cX8_totalVolumeBySounds 20 = .ok (.lreturn, 1) := by decide +kernel
theorem dX8_soundCount_0 : decode cX8_soundCount 0 = .ok (.iload_n 1, 1) := by decide +kernel
theorem dX8_soundCount_1 : decode cX8_soundCount 1 = .ok (.invokestatic 174, 3) := by decide +kernel
theorem dX8_soundCount_4 : decode cX8_soundCount 4 = .ok (.ifCond .lt 14, 3) := by decide +kernel
theorem dX8_soundCount_7 : decode cX8_soundCount 7 = .ok (.iload_n 2, 1) := by decide +kernel
theorem dX8_soundCount_8 : decode cX8_soundCount 8 = .ok (.iconst 1, 1) := by decide +kernel
theorem dX8_soundCount_9 : decode cX8_soundCount 9 = .ok (.if_icmp .lt 9, 3) := by decide +kernel
theorem dX8_soundCount_12 : decode cX8_soundCount 12 = .ok (.iload_n 2, 1) := by decide +kernel
theorem dX8_soundCount_13 : decode cX8_soundCount 13 = .ok (.bipush 9, 2) := by decide +kernel
theorem dX8_soundCount_15 : decode cX8_soundCount 15 = .ok (.if_icmp .le 13, 3) := by decide +kernel
theorem dX8_soundCount_18 : decode cX8_soundCount 18 = .ok (.new 150, 3) := by decide +kernel
theorem dX8_soundCount_21 : decode cX8_soundCount 21 = .ok (.dup, 1) := by decide +kernel
theorem dX8_soundCount_22 : decode cX8_soundCount 22 = .ok (.ldc 178, 2) := by decide +kernel
theorem dX8_soundCount_24 : decode cX8_soundCount 24 = .ok (.invokespecial 154, 3) := by decide +kernel
theorem dX8_soundCount_27 : decode cX8_soundCount 27 = .ok (.athrow, 1) := by decide +kernel
theorem dX8_soundCount_28 : decode cX8_soundCount 28 = .ok (.aload_n 0, 1) := by decide +kernel
theorem dX8_soundCount_29 : decode cX8_soundCount 29 = .ok (.getfield 12, 3) := by decide +kernel
theorem dX8_soundCount_32 : decode cX8_soundCount 32 = .ok (.iload_n 1, 1) := by decide +kernel
theorem dX8_soundCount_33 : decode cX8_soundCount 33 = .ok (.iload_n 2, 1) := by decide +kernel
theorem dX8_soundCount_34 : decode cX8_soundCount 34 = .ok (.invokevirtual 235, 3) := by decide +kernel
theorem dX8_soundCount_37 : decode cX8_soundCount 37 = .ok (.ireturn, 1) := by decide +kernel
theorem dX8_greatestTotal_0 : decode cX8_greatestTotal 0 = .ok (.aload_n 0, 1) := by decide +kernel
theorem dX8_greatestTotal_1 : decode cX8_greatestTotal 1 = .ok (.getfield 12, 3) := by decide +kernel
theorem dX8_greatestTotal_4 : decode cX8_greatestTotal 4 = .ok (.getfield 110, 3) := by decide +kernel
theorem dX8_greatestTotal_7 : decode cX8_greatestTotal 7 = .ok (.ifCond .ne 13, 3) := by decide +kernel
theorem dX8_greatestTotal_10 : decode cX8_greatestTotal 10 = .ok (.new 214, 3) := by decide +kernel
theorem dX8_greatestTotal_13 : decode cX8_greatestTotal 13 = .ok (.dup, 1) := by decide +kernel
theorem dX8_greatestTotal_14 : decode cX8_greatestTotal 14 = .ok (.ldc 238, 2) := by decide +kernel
theorem dX8_greatestTotal_16 : decode cX8_greatestTotal 16 = .ok (.invokespecial 218, 3) := by decide +kernel
theorem dX8_greatestTotal_19 : decode cX8_greatestTotal 19 = .ok (.athrow, 1) := by decide +kernel
theorem dX8_greatestTotal_20 : decode cX8_greatestTotal 20 = .ok (.aload_n 0, 1) := by decide +kernel
theorem dX8_greatestTotal_21 : decode cX8_greatestTotal 21 = .ok (.getfield 12, 3) := by decide +kernel
theorem dX8_greatestTotal_24 : decode cX8_greatestTotal 24 = .ok (.getfield 240, 3) := by decide +kernel
theorem dX8_greatestTotal_27 : decode cX8_greatestTotal 27 = .ok (.ireturn, 1) := by decide +kernel
theorem dX8_loggedTotal_0 : decode cX8_loggedTotal 0 = .ok (.iload_n 1, 1) := by decide +kernel
theorem dX8_loggedTotal_1 : decode cX8_loggedTotal 1 = .ok (.ifCond .lt 20, 3) := by decide +kernel
theorem dX8_loggedTotal_4 : decode cX8_loggedTotal 4 = .ok (.iload_n 1, 1) := by decide +kernel
theorem dX8_loggedTotal_5 : decode cX8_loggedTotal 5 = .ok (.bipush 10, 2) := by decide +kernel
theorem dX8_loggedTotal_7 : decode cX8_loggedTotal 7 = .ok (.if_icmp .ge 14, 3) := by decide +kernel
theorem dX8_loggedTotal_10 : decode cX8_loggedTotal 10 = .ok (.iload_n 1, 1) := by decide +kernel
theorem dX8_loggedTotal_11 : decode cX8_loggedTotal 11 = .ok (.aload_n 0, 1) := by decide +kernel
theorem dX8_loggedTotal_12 : decode cX8_loggedTotal 12 = .ok (.getfield 12, 3) := by decide +kernel
theorem dX8_loggedTotal_15 : decode cX8_loggedTotal 15 = .ok (.getfield 110, 3) := by decide +kernel
theorem dX8_loggedTotal_18 : decode cX8_loggedTotal 18 = .ok (.if_icmp .lt 13, 3) := by decide +kernel
theorem dX8_loggedTotal_21 : decode cX8_loggedTotal 21 = .ok (.new 214, 3) := by decide +kernel
theorem dX8_loggedTotal_24 : decode cX8_loggedTotal 24 = .ok (.dup, 1) := by decide +kernel
theorem dX8_loggedTotal_25 : decode cX8_loggedTotal 25 = .ok (.ldc 243, 2) := by decide +kernel
theorem dX8_loggedTotal_27 : decode cX8_loggedTotal 27 = .ok (.invokespecial 218, 3) := by decide +kernel
theorem dX8_loggedTotal_30 : decode cX8_loggedTotal 30 = .ok (.athrow, 1) := by decide +kernel
theorem dX8_loggedTotal_31 : decode cX8_loggedTotal 31 = .ok (.aload_n 0, 1) := by decide +kernel
theorem dX8_loggedTotal_32 : decode cX8_loggedTotal 32 = .ok (.getfield 12, 3) := by decide +kernel
theorem dX8_loggedTotal_35 : decode cX8_loggedTotal 35 = .ok (.aload_n 0, 1) := by decide +kernel
theorem dX8_loggedTotal_36 : decode cX8_loggedTotal 36 = .ok (.getfield 12, 3) := by decide +kernel
theorem dX8_loggedTotal_39 : decode cX8_loggedTotal 39 = .ok (.getfield 110, 3) := by decide +kernel
theorem dX8_loggedTotal_42 : decode cX8_loggedTotal 42 = .ok (.iconst 1, 1) := by decide +kernel
theorem dX8_loggedTotal_43 : decode cX8_loggedTotal 43 = .ok (.isub, 1) := by decide +kernel
theorem dX8_loggedTotal_44 : decode cX8_loggedTotal 44 = .ok (.iload_n 1, 1) := by decide +kernel
theorem dX8_loggedTotal_45 : decode cX8_loggedTotal 45 = .ok (.isub, 1) := by decide +kernel
theorem dX8_loggedTotal_46 : decode cX8_loggedTotal 46 = .ok (.invokevirtual 245, 3) := by decide +kernel
theorem dX8_loggedTotal_49 : decode cX8_loggedTotal 49 = .ok (.ireturn, 1) := by decide +kernel
theorem dX8_sectionByVolume_0 : decode cX8_sectionByVolume 0 = .ok (.iconst 0, 1) := by decide +kernel
theorem dX8_sectionByVolume_1 : decode cX8_sectionByVolume 1 = .ok (.istore_n 2, 1) := by decide +kernel
theorem dX8_sectionByVolume_2 : decode cX8_sectionByVolume 2 = .ok (.iload_n 2, 1) := by decide +kernel
theorem dX8_sectionByVolume_3 : decode cX8_sectionByVolume 3 = .ok (.aload_n 0, 1) := by decide +kernel
theorem dX8_sectionByVolume_4 : decode cX8_sectionByVolume 4 = .ok (.getfield 12, 3) := by decide +kernel
theorem dX8_sectionByVolume_7 : decode cX8_sectionByVolume 7 = .ok (.getfield 113, 3) := by decide +kernel
theorem dX8_sectionByVolume_10 : decode cX8_sectionByVolume 10 = .ok (.if_icmp .ge 20, 3) := by decide +kernel
theorem dX8_sectionByVolume_13 : decode cX8_sectionByVolume 13 = .ok (.aload_n 0, 1) := by decide +kernel
theorem dX8_sectionByVolume_14 : decode cX8_sectionByVolume 14 = .ok (.iload_n 2, 1) := by decide +kernel
theorem dX8_sectionByVolume_15 : decode cX8_sectionByVolume 15 = .ok (.invokevirtual 248, 3) := by decide +kernel
theorem dX8_sectionByVolume_18 : decode cX8_sectionByVolume 18 = .ok (.iload_n 1, 1) := by decide +kernel
theorem dX8_sectionByVolume_19 : decode cX8_sectionByVolume 19 = .ok (.if_icmp .ne 5, 3) := by decide +kernel
theorem dX8_sectionByVolume_22 : decode cX8_sectionByVolume 22 = .ok (.iload_n 2, 1) := by decide +kernel
theorem dX8_sectionByVolume_23 : decode cX8_sectionByVolume 23 = .ok (.ireturn, 1) := by decide +kernel
theorem dX8_sectionByVolume_24 : decode cX8_sectionByVolume 24 = .ok (.iinc 2 1, 3) := by decide +kernel
theorem dX8_sectionByVolume_27 : decode cX8_sectionByVolume 27 = .ok (.goto (-25), 3) := by decide +kernel
theorem dX8_sectionByVolume_30 : decode cX8_sectionByVolume 30 = .ok (.new 214, 3) := by decide +kernel
theorem dX8_sectionByVolume_33 : decode cX8_sectionByVolume 33 = .ok (.dup, 1) := by decide +kernel
theorem dX8_sectionByVolume_34 : decode cX8_sectionByVolume 34 = .ok (.ldc 251, 2) := by decide +kernel
theorem dX8_sectionByVolume_36 : decode cX8_sectionByVolume 36 = .ok (.invokespecial 218, 3) := by decide +kernel
theorem dX8_sectionByVolume_39 : decode cX8_sectionByVolume 39 = .ok (.athrow, 1) := by decide +kernel
theorem dX8_noteBySounds_0 : decode cX8_noteBySounds 0 = .ok (.iconst 1, 1) := by decide +kernel
theorem dX8_noteBySounds_1 : decode cX8_noteBySounds 1 = .ok (.istore_n 2, 1) := by decide +kernel
theorem dX8_noteBySounds_2 : decode cX8_noteBySounds 2 = .ok (.iload_n 2, 1) := by decide +kernel
theorem dX8_noteBySounds_3 : decode cX8_noteBySounds 3 = .ok (.bipush 9, 2) := by decide +kernel
theorem dX8_noteBySounds_5 : decode cX8_noteBySounds 5 = .ok (.if_icmp .gt 20, 3) := by decide +kernel
theorem dX8_noteBySounds_8 : decode cX8_noteBySounds 8 = .ok (.aload_n 0, 1) := by decide +kernel
theorem dX8_noteBySounds_9 : decode cX8_noteBySounds 9 = .ok (.iload_n 2, 1) := by decide +kernel
theorem dX8_noteBySounds_10 : decode cX8_noteBySounds 10 = .ok (.invokevirtual 253, 3) := by decide +kernel
theorem dX8_noteBySounds_13 : decode cX8_noteBySounds 13 = .ok (.iload_n 1, 1) := by decide +kernel
theorem dX8_noteBySounds_14 : decode cX8_noteBySounds 14 = .ok (.if_icmp .ne 5, 3) := by decide +kernel
theorem dX8_noteBySounds_17 : decode cX8_noteBySounds 17 = .ok (.iload_n 2, 1) := by decide +kernel
theorem dX8_noteBySounds_18 : decode cX8_noteBySounds 18 = .ok (.ireturn, 1) := by decide +kernel
theorem dX8_noteBySounds_19 : decode cX8_noteBySounds 19 = .ok (.iinc 2 1, 3) := by decide +kernel
theorem dX8_noteBySounds_22 : decode cX8_noteBySounds 22 = .ok (.goto (-20), 3) := by decide +kernel
theorem dX8_noteBySounds_25 : decode cX8_noteBySounds 25 = .ok (.new 214, 3) := by decide +kernel
theorem dX8_noteBySounds_28 : decode cX8_noteBySounds 28 = .ok (.dup, 1) := by decide +kernel
theorem dX8_noteBySounds_29 : decode cX8_noteBySounds 29 = .ok (.ldc_w 256, 3) := by decide +kernel
theorem dX8_noteBySounds_32 : decode cX8_noteBySounds 32 = .ok (.invokespecial 218, 3) := by decide +kernel
theorem dX8_noteBySounds_35 : decode cX8_noteBySounds 35 = .ok (.athrow, 1) := by decide +kernel
theorem dX8_meanTotal_0 : decode cX8_meanTotal 0 = .ok (.aload_n 0, 1) := by decide +kernel
theorem dX8_meanTotal_1 : decode cX8_meanTotal 1 = .ok (.getfield 12, 3) := by decide +kernel
theorem dX8_meanTotal_4 : decode cX8_meanTotal 4 = .ok (.getfield 110, 3) := by decide +kernel
theorem dX8_meanTotal_7 : decode cX8_meanTotal 7 = .ok (.ifCond .ne 13, 3) := by decide +kernel
theorem dX8_meanTotal_10 : decode cX8_meanTotal 10 = .ok (.new 258, 3) := by decide +kernel
theorem dX8_meanTotal_13 : decode cX8_meanTotal 13 = .ok (.dup, 1) := by decide +kernel
theorem dX8_meanTotal_14 : decode cX8_meanTotal 14 = .ok (.ldc 238, 2) := by decide +kernel
theorem dX8_meanTotal_16 : decode cX8_meanTotal 16 = .ok (.invokespecial 260, 3) := by decide +kernel
theorem dX8_meanTotal_19 : decode cX8_meanTotal 19 = .ok (.athrow, 1) := by decide +kernel
theorem dX8_meanTotal_20 : decode cX8_meanTotal 20 = .ok (.aload_n 0, 1) := by decide +kernel
theorem dX8_meanTotal_21 : decode cX8_meanTotal 21 = .ok (.getfield 12, 3) := by decide +kernel
theorem dX8_meanTotal_24 : decode cX8_meanTotal 24 = .ok (.getfield 227, 3) := by decide +kernel
theorem dX8_meanTotal_27 : decode cX8_meanTotal 27 = .ok (.l2d, 1) := by decide +kernel
theorem dX8_meanTotal_28 : decode cX8_meanTotal 28 = .ok (.aload_n 0, 1) := by decide +kernel
theorem dX8_meanTotal_29 : decode cX8_meanTotal 29 = .ok (.getfield 12, 3) := by decide +kernel
theorem dX8_meanTotal_32 : decode cX8_meanTotal 32 = .ok (.getfield 110, 3) := by decide +kernel
theorem dX8_meanTotal_35 : decode cX8_meanTotal 35 = .ok (.i2d, 1) := by decide +kernel
theorem dX8_meanTotal_36 : decode cX8_meanTotal 36 = .ok (.ddiv, 1) := by decide +kernel
theorem dX8_meanTotal_37 : decode cX8_meanTotal 37 = .ok (.dreturn, 1) := by decide +kernel
theorem dX8_maskedShare_0 : decode cX8_maskedShare 0 = .ok (.aload_n 0, 1) := by decide +kernel
theorem dX8_maskedShare_1 : decode cX8_maskedShare 1 = .ok (.iload_n 1, 1) := by decide +kernel
theorem dX8_maskedShare_2 : decode cX8_maskedShare 2 = .ok (.invokevirtual 119, 3) := by decide +kernel
theorem dX8_maskedShare_5 : decode cX8_maskedShare 5 = .ok (.astore_n 2, 1) := by decide +kernel
theorem dX8_maskedShare_6 : decode cX8_maskedShare 6 = .ok (.aload_n 2, 1) := by decide +kernel
