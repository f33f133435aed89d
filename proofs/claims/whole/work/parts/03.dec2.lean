theorem dX8_maskedShare_7 : decode cX8_maskedShare 7 = .ok (.getfield 130, 3) := by decide +kernel
theorem dX8_maskedShare_10 : decode cX8_maskedShare 10 = .ok (.ifCond .ne 5, 3) := by decide +kernel
theorem dX8_maskedShare_13 : decode cX8_maskedShare 13 = .ok (.fconst 0, 1) := by decide +kernel
theorem dX8_maskedShare_14 : decode cX8_maskedShare 14 = .ok (.freturn, 1) := by decide +kernel
theorem dX8_maskedShare_15 : decode cX8_maskedShare 15 = .ok (.aload_n 2, 1) := by decide +kernel
theorem dX8_maskedShare_16 : decode cX8_maskedShare 16 = .ok (.invokevirtual 261, 3) := by decide +kernel
theorem dX8_maskedShare_19 : decode cX8_maskedShare 19 = .ok (.i2f, 1) := by decide +kernel
theorem dX8_maskedShare_20 : decode cX8_maskedShare 20 = .ok (.aload_n 2, 1) := by decide +kernel
theorem dX8_maskedShare_21 : decode cX8_maskedShare 21 = .ok (.getfield 130, 3) := by decide +kernel
theorem dX8_maskedShare_24 : decode cX8_maskedShare 24 = .ok (.i2f, 1) := by decide +kernel
theorem dX8_maskedShare_25 : decode cX8_maskedShare 25 = .ok (.fdiv, 1) := by decide +kernel
theorem dX8_maskedShare_26 : decode cX8_maskedShare 26 = .ok (.freturn, 1) := by decide +kernel
theorem dX8_isConsistent_0 : decode cX8_isConsistent 0 = .ok (.aload_n 0, 1) := by decide +kernel
theorem dX8_isConsistent_1 : decode cX8_isConsistent 1 = .ok (.invokevirtual 264, 3) := by decide +kernel
theorem dX8_isConsistent_4 : decode cX8_isConsistent 4 = .ok (.aload_n 0, 1) := by decide +kernel
theorem dX8_isConsistent_5 : decode cX8_isConsistent 5 = .ok (.invokevirtual 268, 3) := by decide +kernel
theorem dX8_isConsistent_8 : decode cX8_isConsistent 8 = .ok (.lcmp, 1) := by decide +kernel
theorem dX8_isConsistent_9 : decode cX8_isConsistent 9 = .ok (.ifCond .ne 25, 3) := by decide +kernel
theorem dX8_isConsistent_12 : decode cX8_isConsistent 12 = .ok (.aload_n 0, 1) := by decide +kernel
theorem dX8_isConsistent_13 : decode cX8_isConsistent 13 = .ok (.invokevirtual 271, 3) := by decide +kernel
theorem dX8_isConsistent_16 : decode cX8_isConsistent 16 = .ok (.aload_n 0, 1) := by decide +kernel
theorem dX8_isConsistent_17 : decode cX8_isConsistent 17 = .ok (.invokevirtual 274, 3) := by decide +kernel
theorem dX8_isConsistent_20 : decode cX8_isConsistent 20 = .ok (.if_icmp .ne 14, 3) := by decide +kernel
theorem dX8_isConsistent_23 : decode cX8_isConsistent 23 = .ok (.aload_n 0, 1) := by decide +kernel
theorem dX8_isConsistent_24 : decode cX8_isConsistent 24 = .ok (.invokevirtual 277, 3) := by decide +kernel
theorem dX8_isConsistent_27 : decode cX8_isConsistent 27 = .ok (.ifCond .eq 7, 3) := by decide +kernel
theorem dX8_isConsistent_30 : decode cX8_isConsistent 30 = .ok (.iconst 1, 1) := by decide +kernel
theorem dX8_isConsistent_31 : decode cX8_isConsistent 31 = .ok (.goto 4, 3) := by decide +kernel
theorem dX8_isConsistent_34 : decode cX8_isConsistent 34 = .ok (.iconst 0, 1) := by decide +kernel
theorem dX8_isConsistent_35 : decode cX8_isConsistent 35 = .ok (.ireturn, 1) := by decide +kernel
theorem dX8_renderScore_0 : decode cX8_renderScore 0 = .ok (.aload_n 0, 1) := by decide +kernel
theorem dX8_renderScore_1 : decode cX8_renderScore 1 = .ok (.iload_n 1, 1) := by decide +kernel
theorem dX8_renderScore_2 : decode cX8_renderScore 2 = .ok (.invokevirtual 119, 3) := by decide +kernel
theorem dX8_renderScore_5 : decode cX8_renderScore 5 = .ok (.astore_n 2, 1) := by decide +kernel
theorem dX8_renderScore_6 : decode cX8_renderScore 6 = .ok (.aload_n 0, 1) := by decide +kernel
theorem dX8_renderScore_7 : decode cX8_renderScore 7 = .ok (.getfield 50, 3) := by decide +kernel
theorem dX8_renderScore_10 : decode cX8_renderScore 10 = .ok (.invokevirtual 281, 3) := by decide +kernel
theorem dX8_renderScore_13 : decode cX8_renderScore 13 = .ok (.aload_n 0, 1) := by decide +kernel
theorem dX8_renderScore_14 : decode cX8_renderScore 14 = .ok (.getfield 50, 3) := by decide +kernel
theorem dX8_renderScore_17 : decode cX8_renderScore 17 = .ok (.aload_n 2, 1) := by decide +kernel
theorem dX8_renderScore_18 : decode cX8_renderScore 18 = .ok (.getfield 123, 3) := by decide +kernel
theorem dX8_renderScore_21 : decode cX8_renderScore 21 = .ok (.invokevirtual 284, 3) := by decide +kernel
theorem dX8_renderScore_24 : decode cX8_renderScore 24 = .ok (.aload_n 0, 1) := by decide +kernel
theorem dX8_renderScore_25 : decode cX8_renderScore 25 = .ok (.getfield 50, 3) := by decide +kernel
theorem dX8_renderScore_28 : decode cX8_renderScore 28 = .ok (.bipush 58, 2) := by decide +kernel
theorem dX8_renderScore_30 : decode cX8_renderScore 30 = .ok (.invokevirtual 284, 3) := by decide +kernel
theorem dX8_renderScore_33 : decode cX8_renderScore 33 = .ok (.iconst 0, 1) := by decide +kernel
theorem dX8_renderScore_34 : decode cX8_renderScore 34 = .ok (.istore_n 3, 1) := by decide +kernel
theorem dX8_renderScore_35 : decode cX8_renderScore 35 = .ok (.iload_n 3, 1) := by decide +kernel
theorem dX8_renderScore_36 : decode cX8_renderScore 36 = .ok (.aload_n 2, 1) := by decide +kernel
theorem dX8_renderScore_37 : decode cX8_renderScore 37 = .ok (.getfield 127, 3) := by decide +kernel
theorem dX8_renderScore_40 : decode cX8_renderScore 40 = .ok (.if_icmp .ge 57, 3) := by decide +kernel
theorem dX8_renderScore_43 : decode cX8_renderScore 43 = .ok (.iload_n 3, 1) := by decide +kernel
theorem dX8_renderScore_44 : decode cX8_renderScore 44 = .ok (.ifCond .le 12, 3) := by decide +kernel
theorem dX8_renderScore_47 : decode cX8_renderScore 47 = .ok (.aload_n 0, 1) := by decide +kernel
theorem dX8_renderScore_48 : decode cX8_renderScore 48 = .ok (.getfield 50, 3) := by decide +kernel
theorem dX8_renderScore_51 : decode cX8_renderScore 51 = .ok (.bipush 47, 2) := by decide +kernel
theorem dX8_renderScore_53 : decode cX8_renderScore 53 = .ok (.invokevirtual 284, 3) := by decide +kernel
theorem dX8_renderScore_56 : decode cX8_renderScore 56 = .ok (.iconst 0, 1) := by decide +kernel
theorem dX8_renderScore_57 : decode cX8_renderScore 57 = .ok (.istore 4, 2) := by decide +kernel
theorem dX8_renderScore_59 : decode cX8_renderScore 59 = .ok (.iload 4, 2) := by decide +kernel
theorem dX8_renderScore_61 : decode cX8_renderScore 61 = .ok (.aload_n 2, 1) := by decide +kernel
theorem dX8_renderScore_62 : decode cX8_renderScore 62 = .ok (.getfield 130, 3) := by decide +kernel
theorem dX8_renderScore_65 : decode cX8_renderScore 65 = .ok (.if_icmp .ge 26, 3) := by decide +kernel
theorem dX8_renderScore_68 : decode cX8_renderScore 68 = .ok (.aload_n 0, 1) := by decide +kernel
theorem dX8_renderScore_69 : decode cX8_renderScore 69 = .ok (.getfield 50, 3) := by decide +kernel
theorem dX8_renderScore_72 : decode cX8_renderScore 72 = .ok (.aload_n 2, 1) := by decide +kernel
theorem dX8_renderScore_73 : decode cX8_renderScore 73 = .ok (.iload_n 3, 1) := by decide +kernel
theorem dX8_renderScore_74 : decode cX8_renderScore 74 = .ok (.iload 4, 2) := by decide +kernel
theorem dX8_renderScore_76 : decode cX8_renderScore 76 = .ok (.invokevirtual 144, 3) := by decide +kernel
theorem dX8_renderScore_79 : decode cX8_renderScore 79 = .ok (.invokestatic 288, 3) := by decide +kernel
theorem dX8_renderScore_82 : decode cX8_renderScore 82 = .ok (.invokevirtual 284, 3) := by decide +kernel
theorem dX8_renderScore_85 : decode cX8_renderScore 85 = .ok (.iinc 4 1, 3) := by decide +kernel
theorem dX8_renderScore_88 : decode cX8_renderScore 88 = .ok (.goto (-29), 3) := by decide +kernel
theorem dX8_renderScore_91 : decode cX8_renderScore 91 = .ok (.iinc 3 1, 3) := by decide +kernel
theorem dX8_renderScore_94 : decode cX8_renderScore 94 = .ok (.goto (-59), 3) := by decide +kernel
theorem dX8_renderScore_97 : decode cX8_renderScore 97 = .ok (.aload_n 0, 1) := by decide +kernel
theorem dX8_renderScore_98 : decode cX8_renderScore 98 = .ok (.getfield 50, 3) := by decide +kernel
theorem dX8_renderScore_101 : decode cX8_renderScore 101 = .ok (.getfield 292, 3) := by decide +kernel
theorem dX8_renderScore_104 : decode cX8_renderScore 104 = .ok (.ireturn, 1) := by decide +kernel
theorem dX8_renderMask_0 : decode cX8_renderMask 0 = .ok (.aload_n 0, 1) := by decide +kernel
theorem dX8_renderMask_1 : decode cX8_renderMask 1 = .ok (.iload_n 1, 1) := by decide +kernel
theorem dX8_renderMask_2 : decode cX8_renderMask 2 = .ok (.invokevirtual 119, 3) := by decide +kernel
theorem dX8_renderMask_5 : decode cX8_renderMask 5 = .ok (.astore_n 2, 1) := by decide +kernel
theorem dX8_renderMask_6 : decode cX8_renderMask 6 = .ok (.aload_n 0, 1) := by decide +kernel
theorem dX8_renderMask_7 : decode cX8_renderMask 7 = .ok (.getfield 50, 3) := by decide +kernel
theorem dX8_renderMask_10 : decode cX8_renderMask 10 = .ok (.invokevirtual 281, 3) := by decide +kernel
theorem dX8_renderMask_13 : decode cX8_renderMask 13 = .ok (.iconst 0, 1) := by decide +kernel
theorem dX8_renderMask_14 : decode cX8_renderMask 14 = .ok (.istore_n 3, 1) := by decide +kernel
theorem dX8_renderMask_15 : decode cX8_renderMask 15 = .ok (.iload_n 3, 1) := by decide +kernel
theorem dX8_renderMask_16 : decode cX8_renderMask 16 = .ok (.aload_n 2, 1) := by decide +kernel
theorem dX8_renderMask_17 : decode cX8_renderMask 17 = .ok (.getfield 130, 3) := by decide +kernel
theorem dX8_renderMask_20 : decode cX8_renderMask 20 = .ok (.if_icmp .ge 31, 3) := by decide +kernel
theorem dX8_renderMask_23 : decode cX8_renderMask 23 = .ok (.aload_n 0, 1) := by decide +kernel
theorem dX8_renderMask_24 : decode cX8_renderMask 24 = .ok (.getfield 50, 3) := by decide +kernel
theorem dX8_renderMask_27 : decode cX8_renderMask 27 = .ok (.aload_n 2, 1) := by decide +kernel
theorem dX8_renderMask_28 : decode cX8_renderMask 28 = .ok (.iload_n 3, 1) := by decide +kernel
theorem dX8_renderMask_29 : decode cX8_renderMask 29 = .ok (.invokevirtual 155, 3) := by decide +kernel
theorem dX8_renderMask_32 : decode cX8_renderMask 32 = .ok (.ifCond .eq 8, 3) := by decide +kernel
theorem dX8_renderMask_35 : decode cX8_renderMask 35 = .ok (.bipush 120, 2) := by decide +kernel
theorem dX8_renderMask_37 : decode cX8_renderMask 37 = .ok (.goto 5, 3) := by decide +kernel
theorem dX8_renderMask_40 : decode cX8_renderMask 40 = .ok (.bipush 46, 2) := by decide +kernel
theorem dX8_renderMask_42 : decode cX8_renderMask 42 = .ok (.invokevirtual 284, 3) := by decide +kernel
theorem dX8_renderMask_45 : decode cX8_renderMask 45 = .ok (.iinc 3 1, 3) := by decide +kernel
theorem dX8_renderMask_48 : decode cX8_renderMask 48 = .ok (.goto (-33), 3) := by decide +kernel
theorem dX8_renderMask_51 : decode cX8_renderMask 51 = .ok (.aload_n 0, 1) := by decide +kernel
theorem dX8_renderMask_52 : decode cX8_renderMask 52 = .ok (.getfield 50, 3) := by decide +kernel
theorem dX8_renderMask_55 : decode cX8_renderMask 55 = .ok (.bipush 102, 2) := by decide +kernel
theorem dX8_renderMask_57 : decode cX8_renderMask 57 = .ok (.invokevirtual 284, 3) := by decide +kernel
theorem dX8_renderMask_60 : decode cX8_renderMask 60 = .ok (.aload_n 0, 1) := by decide +kernel
theorem dX8_renderMask_61 : decode cX8_renderMask 61 = .ok (.getfield 50, 3) := by decide +kernel
theorem dX8_renderMask_64 : decode cX8_renderMask 64 = .ok (.aload_n 2, 1) := by decide +kernel
theorem dX8_renderMask_65 : decode cX8_renderMask 65 = .ok (.getfield 158, 3) := by decide +kernel
theorem dX8_renderMask_68 : decode cX8_renderMask 68 = .ok (.invokestatic 288, 3) := by decide +kernel
theorem dX8_renderMask_71 : decode cX8_renderMask 71 = .ok (.invokevirtual 284, 3) := by decide +kernel
theorem dX8_renderMask_74 : decode cX8_renderMask 74 = .ok (.aload_n 2, 1) := by decide +kernel
theorem dX8_renderMask_75 : decode cX8_renderMask 75 = .ok (.getfield 161, 3) := by decide +kernel
theorem dX8_renderMask_78 : decode cX8_renderMask 78 = .ok (.ifCond .le 26, 3) := by decide +kernel
theorem dX8_renderMask_81 : decode cX8_renderMask 81 = .ok (.aload_n 0, 1) := by decide +kernel
theorem dX8_renderMask_82 : decode cX8_renderMask 82 = .ok (.getfield 50, 3) := by decide +kernel
theorem dX8_renderMask_85 : decode cX8_renderMask 85 = .ok (.bipush 114, 2) := by decide +kernel
theorem dX8_renderMask_87 : decode cX8_renderMask 87 = .ok (.invokevirtual 284, 3) := by decide +kernel
theorem dX8_renderMask_90 : decode cX8_renderMask 90 = .ok (.aload_n 0, 1) := by decide +kernel
theorem dX8_renderMask_91 : decode cX8_renderMask 91 = .ok (.getfield 50, 3) := by decide +kernel
theorem dX8_renderMask_94 : decode cX8_renderMask 94 = .ok (.aload_n 2, 1) := by decide +kernel
theorem dX8_renderMask_95 : decode cX8_renderMask 95 = .ok (.getfield 161, 3) := by decide +kernel
theorem dX8_renderMask_98 : decode cX8_renderMask 98 = .ok (.invokestatic 288, 3) := by decide +kernel
theorem dX8_renderMask_101 : decode cX8_renderMask 101 = .ok (.invokevirtual 284, 3) := by decide +kernel
theorem dX8_renderMask_104 : decode cX8_renderMask 104 = .ok (.aload_n 0, 1) := by decide +kernel
theorem dX8_renderMask_105 : decode cX8_renderMask 105 = .ok (.getfield 50, 3) := by decide +kernel
theorem dX8_renderMask_108 : decode cX8_renderMask 108 = .ok (.getfield 292, 3) := by decide +kernel
theorem dX8_renderMask_111 : decode cX8_renderMask 111 = .ok (.ireturn, 1) := by decide +kernel
theorem dX8_outputAt_0 : decode cX8_outputAt 0 = .ok (.aload_n 0, 1) := by decide +kernel
theorem dX8_outputAt_1 : decode cX8_outputAt 1 = .ok (.getfield 50, 3) := by decide +kernel
theorem dX8_outputAt_4 : decode cX8_outputAt 4 = .ok (.iload_n 1, 1) := by decide +kernel
theorem dX8_outputAt_5 : decode cX8_outputAt 5 = .ok (.invokevirtual 295, 3) := by decide +kernel
theorem dX8_outputAt_8 : decode cX8_outputAt 8 = .ok (.ifCond .ne 14, 3) := by decide +kernel
theorem dX8_outputAt_11 : decode cX8_outputAt 11 = .ok (.new 137, 3) := by decide +kernel
theorem dX8_outputAt_14 : decode cX8_outputAt 14 = .ok (.dup, 1) := by decide +kernel
theorem dX8_outputAt_15 : decode cX8_outputAt 15 = .ok (.ldc_w 298, 3) := by decide +kernel
theorem dX8_outputAt_18 : decode cX8_outputAt 18 = .ok (.invokespecial 141, 3) := by decide +kernel
theorem dX8_outputAt_21 : decode cX8_outputAt 21 = .ok (.athrow, 1) := by decide +kernel
theorem dX8_outputAt_22 : decode cX8_outputAt 22 = .ok (.aload_n 0, 1) := by decide +kernel
theorem dX8_outputAt_23 : decode cX8_outputAt 23 = .ok (.getfield 50, 3) := by decide +kernel
theorem dX8_outputAt_26 : decode cX8_outputAt 26 = .ok (.iload_n 1, 1) := by decide +kernel
theorem dX8_outputAt_27 : decode cX8_outputAt 27 = .ok (.invokevirtual 300, 3) := by decide +kernel
theorem dX8_outputAt_30 : decode cX8_outputAt 30 = .ok (.ireturn, 1) := by decide +kernel
theorem dX8_type_0 : decode cX8_type 0 = .ok (.iload_n 1, 1) := by decide +kernel
theorem dX8_type_1 : decode cX8_type 1 = .ok (.bipush 32, 2) := by decide +kernel
theorem dX8_type_3 : decode cX8_type 3 = .ok (.if_icmp .lt 9, 3) := by decide +kernel
theorem dX8_type_6 : decode cX8_type 6 = .ok (.iload_n 1, 1) := by decide +kernel
theorem dX8_type_7 : decode cX8_type 7 = .ok (.bipush 126, 2) := by decide +kernel
theorem dX8_type_9 : decode cX8_type 9 = .ok (.if_icmp .le 14, 3) := by decide +kernel
theorem dX8_type_12 : decode cX8_type 12 = .ok (.new 150, 3) := by decide +kernel
theorem dX8_type_15 : decode cX8_type 15 = .ok (.dup, 1) := by decide +kernel
theorem dX8_type_16 : decode cX8_type 16 = .ok (.ldc_w 303, 3) := by decide +kernel
theorem dX8_type_19 : decode cX8_type 19 = .ok (.invokespecial 154, 3) := by decide +kernel
theorem dX8_type_22 : decode cX8_type 22 = .ok (.athrow, 1) := by decide +kernel
theorem dX8_type_23 : decode cX8_type 23 = .ok (.aload_n 0, 1) := by decide +kernel
theorem dX8_type_24 : decode cX8_type 24 = .ok (.getfield 43, 3) := by decide +kernel
theorem dX8_type_27 : decode cX8_type 27 = .ok (.getfield 305, 3) := by decide +kernel
theorem dX8_type_30 : decode cX8_type 30 = .ok (.invokevirtual 308, 3) := by decide +kernel
theorem dX8_type_33 : decode cX8_type 33 = .ok (.ifCond .eq 14, 3) := by decide +kernel
theorem dX8_type_36 : decode cX8_type 36 = .ok (.new 311, 3) := by decide +kernel
theorem dX8_type_39 : decode cX8_type 39 = .ok (.dup, 1) := by decide +kernel
theorem dX8_type_40 : decode cX8_type 40 = .ok (.ldc_w 313, 3) := by decide +kernel
theorem dX8_type_43 : decode cX8_type 43 = .ok (.invokespecial 315, 3) := by decide +kernel
theorem dX8_type_46 : decode cX8_type 46 = .ok (.athrow, 1) := by decide +kernel
theorem dX8_type_47 : decode cX8_type 47 = .ok (.aload_n 0, 1) := by decide +kernel
theorem dX8_type_48 : decode cX8_type 48 = .ok (.getfield 43, 3) := by decide +kernel
theorem dX8_type_51 : decode cX8_type 51 = .ok (.getfield 305, 3) := by decide +kernel
theorem dX8_type_54 : decode cX8_type 54 = .ok (.iload_n 1, 1) := by decide +kernel
theorem dX8_type_55 : decode cX8_type 55 = .ok (.invokevirtual 284, 3) := by decide +kernel
theorem dX8_type_58 : decode cX8_type 58 = .ok (.aload_n 0, 1) := by decide +kernel
theorem dX8_type_59 : decode cX8_type 59 = .ok (.getfield 43, 3) := by decide +kernel
theorem dX8_type_62 : decode cX8_type 62 = .ok (.getfield 305, 3) := by decide +kernel
theorem dX8_type_65 : decode cX8_type 65 = .ok (.getfield 292, 3) := by decide +kernel
theorem dX8_type_68 : decode cX8_type 68 = .ok (.ireturn, 1) := by decide +kernel
theorem dX8_runScript_0 : decode cX8_runScript 0 = .ok (.aload_n 0, 1) := by decide +kernel
theorem dX8_runScript_1 : decode cX8_runScript 1 = .ok (.getfield 43, 3) := by decide +kernel
theorem dX8_runScript_4 : decode cX8_runScript 4 = .ok (.invokevirtual 316, 3) := by decide +kernel
theorem dX8_runScript_7 : decode cX8_runScript 7 = .ok (.istore_n 1, 1) := by decide +kernel
theorem dX8_runScript_8 : decode cX8_runScript 8 = .ok (.aload_n 0, 1) := by decide +kernel
theorem dX8_runScript_9 : decode cX8_runScript 9 = .ok (.getfield 43, 3) := by decide +kernel
theorem dX8_runScript_12 : decode cX8_runScript 12 = .ok (.getfield 305, 3) := by decide +kernel
theorem dX8_runScript_15 : decode cX8_runScript 15 = .ok (.invokevirtual 281, 3) := by decide +kernel
theorem dX8_runScript_18 : decode cX8_runScript 18 = .ok (.iload_n 1, 1) := by decide +kernel
theorem dX8_runScript_19 : decode cX8_runScript 19 = .ok (.ifCond .ne 25, 3) := by decide +kernel
theorem dX8_runScript_22 : decode cX8_runScript 22 = .ok (.aload_n 0, 1) := by decide +kernel
theorem dX8_runScript_23 : decode cX8_runScript 23 = .ok (.aload_n 0, 1) := by decide +kernel
theorem dX8_runScript_24 : decode cX8_runScript 24 = .ok (.getfield 43, 3) := by decide +kernel
theorem dX8_runScript_27 : decode cX8_runScript 27 = .ok (.getfield 319, 3) := by decide +kernel
theorem dX8_runScript_30 : decode cX8_runScript 30 = .ok (.putfield 54, 3) := by decide +kernel
theorem dX8_runScript_33 : decode cX8_runScript 33 = .ok (.new 150, 3) := by decide +kernel
theorem dX8_runScript_36 : decode cX8_runScript 36 = .ok (.dup, 1) := by decide +kernel
theorem dX8_runScript_37 : decode cX8_runScript 37 = .ok (.ldc_w 322, 3) := by decide +kernel
theorem dX8_runScript_40 : decode cX8_runScript 40 = .ok (.invokespecial 154, 3) := by decide +kernel
theorem dX8_runScript_43 : decode cX8_runScript 43 = .ok (.athrow, 1) := by decide +kernel
theorem dX8_runScript_44 : decode cX8_runScript 44 = .ok (.aload_n 0, 1) := by decide +kernel
theorem dX8_runScript_45 : decode cX8_runScript 45 = .ok (.getfield 29, 3) := by decide +kernel
theorem dX8_runScript_48 : decode cX8_runScript 48 = .ok (.aload_n 0, 1) := by decide +kernel
theorem dX8_runScript_49 : decode cX8_runScript 49 = .ok (.getfield 12, 3) := by decide +kernel
theorem dX8_runScript_52 : decode cX8_runScript 52 = .ok (.invokevirtual 61, 3) := by decide +kernel
theorem dX8_runScript_55 : decode cX8_runScript 55 = .ok (.iconst 0, 1) := by decide +kernel
theorem dX8_runScript_56 : decode cX8_runScript 56 = .ok (.istore_n 2, 1) := by decide +kernel
theorem dX8_runScript_57 : decode cX8_runScript 57 = .ok (.iload_n 2, 1) := by decide +kernel
theorem dX8_runScript_58 : decode cX8_runScript 58 = .ok (.aload_n 0, 1) := by decide +kernel
theorem dX8_runScript_59 : decode cX8_runScript 59 = .ok (.getfield 43, 3) := by decide +kernel
theorem dX8_runScript_62 : decode cX8_runScript 62 = .ok (.getfield 324, 3) := by decide +kernel
theorem dX8_runScript_65 : decode cX8_runScript 65 = .ok (.if_icmp .ge 64, 3) := by decide +kernel
theorem dX8_runScript_68 : decode cX8_runScript 68 = .ok (.iload_n 2, 1) := by decide +kernel
theorem dX8_runScript_69 : decode cX8_runScript 69 = .ok (.aload_n 0, 1) := by decide +kernel
theorem dX8_runScript_70 : decode cX8_runScript 70 = .ok (.getfield 43, 3) := by decide +kernel
theorem dX8_runScript_73 : decode cX8_runScript 73 = .ok (.getfield 325, 3) := by decide +kernel
theorem dX8_runScript_76 : decode cX8_runScript 76 = .ok (.arraylength, 1) := by decide +kernel
theorem dX8_runScript_77 : decode cX8_runScript 77 = .ok (.if_icmp .ge 52, 3) := by decide +kernel
theorem dX8_runScript_80 : decode cX8_runScript 80 = .ok (.aload_n 0, 1) := by decide +kernel
theorem dX8_runScript_81 : decode cX8_runScript 81 = .ok (.aload_n 0, 1) := by decide +kernel
theorem dX8_runScript_82 : decode cX8_runScript 82 = .ok (.getfield 43, 3) := by decide +kernel
theorem dX8_runScript_85 : decode cX8_runScript 85 = .ok (.getfield 325, 3) := by decide +kernel
theorem dX8_runScript_88 : decode cX8_runScript 88 = .ok (.iload_n 2, 1) := by decide +kernel
theorem dX8_runScript_89 : decode cX8_runScript 89 = .ok (.aaload, 1) := by decide +kernel
theorem dX8_runScript_90 : decode cX8_runScript 90 = .ok (.invokevirtual 329, 3) := by decide +kernel
theorem dX8_runScript_93 : decode cX8_runScript 93 = .ok (.ifCond .ge 30, 3) := by decide +kernel
theorem dX8_runScript_96 : decode cX8_runScript 96 = .ok (.aload_n 0, 1) := by decide +kernel
theorem dX8_runScript_97 : decode cX8_runScript 97 = .ok (.getfield 29, 3) := by decide +kernel
theorem dX8_runScript_100 : decode cX8_runScript 100 = .ok (.aload_n 0, 1) := by decide +kernel
theorem dX8_runScript_101 : decode cX8_runScript 101 = .ok (.getfield 12, 3) := by decide +kernel
theorem dX8_runScript_104 : decode cX8_runScript 104 = .ok (.invokevirtual 333, 3) := by decide +kernel
theorem dX8_runScript_107 : decode cX8_runScript 107 = .ok (.aload_n 0, 1) := by decide +kernel
theorem dX8_runScript_108 : decode cX8_runScript 108 = .ok (.iload_n 2, 1) := by decide +kernel
theorem dX8_runScript_109 : decode cX8_runScript 109 = .ok (.putfield 58, 3) := by decide +kernel
theorem dX8_runScript_112 : decode cX8_runScript 112 = .ok (.new 311, 3) := by decide +kernel
theorem dX8_runScript_115 : decode cX8_runScript 115 = .ok (.dup, 1) := by decide +kernel
theorem dX8_runScript_116 : decode cX8_runScript 116 = .ok (.ldc_w 336, 3) := by decide +kernel
theorem dX8_runScript_119 : decode cX8_runScript 119 = .ok (.invokespecial 315, 3) := by decide +kernel
theorem dX8_runScript_122 : decode cX8_runScript 122 = .ok (.athrow, 1) := by decide +kernel
theorem dX8_runScript_123 : decode cX8_runScript 123 = .ok (.iinc 2 1, 3) := by decide +kernel
theorem dX8_runScript_126 : decode cX8_runScript 126 = .ok (.goto (-69), 3) := by decide +kernel
theorem dX8_runScript_129 : decode cX8_runScript 129 = .ok (.aload_n 0, 1) := by decide +kernel
theorem dX8_runScript_130 : decode cX8_runScript 130 = .ok (.getfield 29, 3) := by decide +kernel
theorem dX8_runScript_133 : decode cX8_runScript 133 = .ok (.invokevirtual 338, 3) := by decide +kernel
theorem dX8_runScript_136 : decode cX8_runScript 136 = .ok (.aload_n 0, 1) := by decide +kernel
theorem dX8_runScript_137 : decode cX8_runScript 137 = .ok (.getfield 43, 3) := by decide +kernel
theorem dX8_runScript_140 : decode cX8_runScript 140 = .ok (.getfield 324, 3) := by decide +kernel
theorem dX8_runScript_143 : decode cX8_runScript 143 = .ok (.ireturn, 1) := by decide +kernel
theorem dX8_errorPosition_0 : decode cX8_errorPosition 0 = .ok (.aload_n 0, 1) := by decide +kernel
theorem dX8_errorPosition_1 : decode cX8_errorPosition 1 = .ok (.getfield 54, 3) := by decide +kernel
theorem dX8_errorPosition_4 : decode cX8_errorPosition 4 = .ok (.iconst (-1), 1) := by decide +kernel
theorem dX8_errorPosition_5 : decode cX8_errorPosition 5 = .ok (.if_icmp .ne 14, 3) := by decide +kernel
theorem dX8_errorPosition_8 : decode cX8_errorPosition 8 = .ok (.new 214, 3) := by decide +kernel
theorem dX8_errorPosition_11 : decode cX8_errorPosition 11 = .ok (.dup, 1) := by decide +kernel
theorem dX8_errorPosition_12 : decode cX8_errorPosition 12 = .ok (.ldc_w 341, 3) := by decide +kernel
theorem dX8_errorPosition_15 : decode cX8_errorPosition 15 = .ok (.invokespecial 218, 3) := by decide +kernel
theorem dX8_errorPosition_18 : decode cX8_errorPosition 18 = .ok (.athrow, 1) := by decide +kernel
theorem dX8_errorPosition_19 : decode cX8_errorPosition 19 = .ok (.aload_n 0, 1) := by decide +kernel
theorem dX8_errorPosition_20 : decode cX8_errorPosition 20 = .ok (.getfield 54, 3) := by decide +kernel
theorem dX8_errorPosition_23 : decode cX8_errorPosition 23 = .ok (.ireturn, 1) := by decide +kernel
theorem dX8_failedCommand_0 : decode cX8_failedCommand 0 = .ok (.aload_n 0, 1) := by decide +kernel
theorem dX8_failedCommand_1 : decode cX8_failedCommand 1 = .ok (.getfield 58, 3) := by decide +kernel
theorem dX8_failedCommand_4 : decode cX8_failedCommand 4 = .ok (.iconst (-1), 1) := by decide +kernel
theorem dX8_failedCommand_5 : decode cX8_failedCommand 5 = .ok (.if_icmp .ne 14, 3) := by decide +kernel
theorem dX8_failedCommand_8 : decode cX8_failedCommand 8 = .ok (.new 214, 3) := by decide +kernel
theorem dX8_failedCommand_11 : decode cX8_failedCommand 11 = .ok (.dup, 1) := by decide +kernel
theorem dX8_failedCommand_12 : decode cX8_failedCommand 12 = .ok (.ldc_w 343, 3) := by decide +kernel
theorem dX8_failedCommand_15 : decode cX8_failedCommand 15 = .ok (.invokespecial 218, 3) := by decide +kernel
theorem dX8_failedCommand_18 : decode cX8_failedCommand 18 = .ok (.athrow, 1) := by decide +kernel
theorem dX8_failedCommand_19 : decode cX8_failedCommand 19 = .ok (.aload_n 0, 1) := by decide +kernel
theorem dX8_failedCommand_20 : decode cX8_failedCommand 20 = .ok (.getfield 58, 3) := by decide +kernel
theorem dX8_failedCommand_23 : decode cX8_failedCommand 23 = .ok (.ireturn, 1) := by decide +kernel
theorem dX8_undo_0 : decode cX8_undo 0 = .ok (.aload_n 0, 1) := by decide +kernel
theorem dX8_undo_1 : decode cX8_undo 1 = .ok (.getfield 29, 3) := by decide +kernel
theorem dX8_undo_4 : decode cX8_undo 4 = .ok (.getfield 345, 3) := by decide +kernel
theorem dX8_undo_7 : decode cX8_undo 7 = .ok (.ifCond .ne 14, 3) := by decide +kernel
theorem dX8_undo_10 : decode cX8_undo 10 = .ok (.new 311, 3) := by decide +kernel
theorem dX8_undo_13 : decode cX8_undo 13 = .ok (.dup, 1) := by decide +kernel
theorem dX8_undo_14 : decode cX8_undo 14 = .ok (.ldc_w 346, 3) := by decide +kernel
theorem dX8_undo_17 : decode cX8_undo 17 = .ok (.invokespecial 315, 3) := by decide +kernel
theorem dX8_undo_20 : decode cX8_undo 20 = .ok (.athrow, 1) := by decide +kernel
theorem dX8_undo_21 : decode cX8_undo 21 = .ok (.aload_n 0, 1) := by decide +kernel
theorem dX8_undo_22 : decode cX8_undo 22 = .ok (.getfield 29, 3) := by decide +kernel
theorem dX8_undo_25 : decode cX8_undo 25 = .ok (.aload_n 0, 1) := by decide +kernel
theorem dX8_undo_26 : decode cX8_undo 26 = .ok (.getfield 12, 3) := by decide +kernel
theorem dX8_undo_29 : decode cX8_undo 29 = .ok (.invokevirtual 348, 3) := by decide +kernel
theorem dX8_undo_32 : decode cX8_undo 32 = .ok (.aload_n 0, 1) := by decide +kernel
theorem dX8_undo_33 : decode cX8_undo 33 = .ok (.getfield 29, 3) := by decide +kernel
theorem dX8_undo_36 : decode cX8_undo 36 = .ok (.getfield 345, 3) := by decide +kernel
theorem dX8_undo_39 : decode cX8_undo 39 = .ok (.ireturn, 1) := by decide +kernel
theorem dX8_save_0 : decode cX8_save 0 = .ok (.aload_n 0, 1) := by decide +kernel
theorem dX8_save_1 : decode cX8_save 1 = .ok (.getfield 19, 3) := by decide +kernel
theorem dX8_save_4 : decode cX8_save 4 = .ok (.aload_n 0, 1) := by decide +kernel
theorem dX8_save_5 : decode cX8_save 5 = .ok (.getfield 12, 3) := by decide +kernel
theorem dX8_save_8 : decode cX8_save 8 = .ok (.invokevirtual 208, 3) := by decide +kernel
theorem dX8_save_11 : decode cX8_save 11 = .ok (.aload_n 0, 1) := by decide +kernel
theorem dX8_save_12 : decode cX8_save 12 = .ok (.iconst 1, 1) := by decide +kernel
theorem dX8_save_13 : decode cX8_save 13 = .ok (.putfield 22, 3) := by decide +kernel
theorem dX8_save_16 : decode cX8_save 16 = .ok (.aload_n 0, 1) := by decide +kernel
theorem dX8_save_17 : decode cX8_save 17 = .ok (.getfield 12, 3) := by decide +kernel
theorem dX8_save_20 : decode cX8_save 20 = .ok (.getfield 113, 3) := by decide +kernel
theorem dX8_save_23 : decode cX8_save 23 = .ok (.ireturn, 1) := by decide +kernel
theorem dX8_restore_0 : decode cX8_restore 0 = .ok (.aload_n 0, 1) := by decide +kernel
theorem dX8_restore_1 : decode cX8_restore 1 = .ok (.getfield 22, 3) := by decide +kernel
theorem dX8_restore_4 : decode cX8_restore 4 = .ok (.ifCond .ne 14, 3) := by decide +kernel
theorem dX8_restore_7 : decode cX8_restore 7 = .ok (.new 311, 3) := by decide +kernel
theorem dX8_restore_10 : decode cX8_restore 10 = .ok (.dup, 1) := by decide +kernel
theorem dX8_restore_11 : decode cX8_restore 11 = .ok (.ldc_w 351, 3) := by decide +kernel
theorem dX8_restore_14 : decode cX8_restore 14 = .ok (.invokespecial 315, 3) := by decide +kernel
theorem dX8_restore_17 : decode cX8_restore 17 = .ok (.athrow, 1) := by decide +kernel
theorem dX8_restore_18 : decode cX8_restore 18 = .ok (.aload_n 0, 1) := by decide +kernel
theorem dX8_restore_19 : decode cX8_restore 19 = .ok (.getfield 12, 3) := by decide +kernel
theorem dX8_restore_22 : decode cX8_restore 22 = .ok (.aload_n 0, 1) := by decide +kernel
theorem dX8_restore_23 : decode cX8_restore 23 = .ok (.getfield 19, 3) := by decide +kernel
theorem dX8_restore_26 : decode cX8_restore 26 = .ok (.invokevirtual 208, 3) := by decide +kernel
theorem dX8_restore_29 : decode cX8_restore 29 = .ok (.aload_n 0, 1) := by decide +kernel
theorem dX8_restore_30 : decode cX8_restore 30 = .ok (.getfield 29, 3) := by decide +kernel
theorem dX8_restore_33 : decode cX8_restore 33 = .ok (.invokevirtual 353, 3) := by decide +kernel
theorem dX8_restore_36 : decode cX8_restore 36 = .ok (.aload_n 0, 1) := by decide +kernel
theorem dX8_restore_37 : decode cX8_restore 37 = .ok (.getfield 12, 3) := by decide +kernel
theorem dX8_restore_40 : decode cX8_restore 40 = .ok (.getfield 113, 3) := by decide +kernel
theorem dX8_restore_43 : decode cX8_restore 43 = .ok (.ireturn, 1) := by decide +kernel
theorem dX8_settled_0 : decode cX8_settled 0 = .ok (.iload_n 1, 1) := by decide +kernel
theorem dX8_settled_1 : decode cX8_settled 1 = .ok (.iconst (-1), 1) := by decide +kernel
theorem dX8_settled_2 : decode cX8_settled 2 = .ok (.if_icmp .ne 14, 3) := by decide +kernel
theorem dX8_settled_5 : decode cX8_settled 5 = .ok (.new 137, 3) := by decide +kernel
theorem dX8_settled_8 : decode cX8_settled 8 = .ok (.dup, 1) := by decide +kernel
theorem dX8_settled_9 : decode cX8_settled 9 = .ok (.ldc_w 356, 3) := by decide +kernel
theorem dX8_settled_12 : decode cX8_settled 12 = .ok (.invokespecial 141, 3) := by decide +kernel
theorem dX8_settled_15 : decode cX8_settled 15 = .ok (.athrow, 1) := by decide +kernel
theorem dX8_settled_16 : decode cX8_settled 16 = .ok (.iload_n 1, 1) := by decide +kernel
theorem dX8_settled_17 : decode cX8_settled 17 = .ok (.bipush (-2), 2) := by decide +kernel
theorem dX8_settled_19 : decode cX8_settled 19 = .ok (.if_icmp .ne 14, 3) := by decide +kernel
theorem dX8_settled_22 : decode cX8_settled 22 = .ok (.new 150, 3) := by decide +kernel
theorem dX8_settled_25 : decode cX8_settled 25 = .ok (.dup, 1) := by decide +kernel
theorem dX8_settled_26 : decode cX8_settled 26 = .ok (.ldc_w 358, 3) := by decide +kernel
theorem dX8_settled_29 : decode cX8_settled 29 = .ok (.invokespecial 154, 3) := by decide +kernel
theorem dX8_settled_32 : decode cX8_settled 32 = .ok (.athrow, 1) := by decide +kernel
theorem dX8_settled_33 : decode cX8_settled 33 = .ok (.iload_n 1, 1) := by decide +kernel
theorem dX8_settled_34 : decode cX8_settled 34 = .ok (.bipush (-3), 2) := by decide +kernel
theorem dX8_settled_36 : decode cX8_settled 36 = .ok (.if_icmp .ne 14, 3) := by decide +kernel
theorem dX8_settled_39 : decode cX8_settled 39 = .ok (.new 311, 3) := by decide +kernel
theorem dX8_settled_42 : decode cX8_settled 42 = .ok (.dup, 1) := by decide +kernel
theorem dX8_settled_43 : decode cX8_settled 43 = .ok (.ldc_w 360, 3) := by decide +kernel
theorem dX8_settled_46 : decode cX8_settled 46 = .ok (.invokespecial 315, 3) := by decide +kernel
theorem dX8_settled_49 : decode cX8_settled 49 = .ok (.athrow, 1) := by decide +kernel
theorem dX8_settled_50 : decode cX8_settled 50 = .ok (.iload_n 1, 1) := by decide +kernel
theorem dX8_settled_51 : decode cX8_settled 51 = .ok (.bipush (-4), 2) := by decide +kernel
theorem dX8_settled_53 : decode cX8_settled 53 = .ok (.if_icmp .ne 14, 3) := by decide +kernel
theorem dX8_settled_56 : decode cX8_settled 56 = .ok (.new 362, 3) := by decide +kernel
theorem dX8_settled_59 : decode cX8_settled 59 = .ok (.dup, 1) := by decide +kernel
theorem dX8_settled_60 : decode cX8_settled 60 = .ok (.ldc_w 364, 3) := by decide +kernel
theorem dX8_settled_63 : decode cX8_settled 63 = .ok (.invokespecial 366, 3) := by decide +kernel
theorem dX8_settled_66 : decode cX8_settled 66 = .ok (.athrow, 1) := by decide +kernel
theorem dX8_settled_67 : decode cX8_settled 67 = .ok (.aload_n 0, 1) := by decide +kernel
theorem dX8_settled_68 : decode cX8_settled 68 = .ok (.getfield 29, 3) := by decide +kernel
theorem dX8_settled_71 : decode cX8_settled 71 = .ok (.invokevirtual 338, 3) := by decide +kernel
theorem dX8_settled_74 : decode cX8_settled 74 = .ok (.iload_n 1, 1) := by decide +kernel
theorem dX8_settled_75 : decode cX8_settled 75 = .ok (.ireturn, 1) := by decide +kernel
theorem dX8_presentSection_0 : decode cX8_presentSection 0 = .ok (.aload_n 0, 1) := by decide +kernel
theorem dX8_presentSection_1 : decode cX8_presentSection 1 = .ok (.getfield 12, 3) := by decide +kernel
theorem dX8_presentSection_4 : decode cX8_presentSection 4 = .ok (.iload_n 1, 1) := by decide +kernel
theorem dX8_presentSection_5 : decode cX8_presentSection 5 = .ok (.invokevirtual 367, 3) := by decide +kernel
theorem dX8_presentSection_8 : decode cX8_presentSection 8 = .ok (.ifCond .ne 14, 3) := by decide +kernel
theorem dX8_presentSection_11 : decode cX8_presentSection 11 = .ok (.new 137, 3) := by decide +kernel
theorem dX8_presentSection_14 : decode cX8_presentSection 14 = .ok (.dup, 1) := by decide +kernel
theorem dX8_presentSection_15 : decode cX8_presentSection 15 = .ok (.ldc_w 370, 3) := by decide +kernel
theorem dX8_presentSection_18 : decode cX8_presentSection 18 = .ok (.invokespecial 141, 3) := by decide +kernel
theorem dX8_presentSection_21 : decode cX8_presentSection 21 = .ok (.athrow, 1) := by decide +kernel
theorem dX8_presentSection_22 : decode cX8_presentSection 22 = .ok (.aload_n 0, 1) := by decide +kernel
theorem dX8_presentSection_23 : decode cX8_presentSection 23 = .ok (.getfield 12, 3) := by decide +kernel
theorem dX8_presentSection_26 : decode cX8_presentSection 26 = .ok (.getfield 372, 3) := by decide +kernel
theorem dX8_presentSection_29 : decode cX8_presentSection 29 = .ok (.iload_n 1, 1) := by decide +kernel
theorem dX8_presentSection_30 : decode cX8_presentSection 30 = .ok (.aaload, 1) := by decide +kernel
theorem dX8_presentSection_31 : decode cX8_presentSection 31 = .ok (.areturn, 1) := by decide +kernel
theorem dX8_sectionWithColumn_0 : decode cX8_sectionWithColumn 0 = .ok (.aload_n 0, 1) := by decide +kernel
theorem dX8_sectionWithColumn_1 : decode cX8_sectionWithColumn 1 = .ok (.iload_n 1, 1) := by decide +kernel
theorem dX8_sectionWithColumn_2 : decode cX8_sectionWithColumn 2 = .ok (.invokevirtual 119, 3) := by decide +kernel
theorem dX8_sectionWithColumn_5 : decode cX8_sectionWithColumn 5 = .ok (.astore_n 3, 1) := by decide +kernel
theorem dX8_sectionWithColumn_6 : decode cX8_sectionWithColumn 6 = .ok (.aload_n 3, 1) := by decide +kernel
theorem dX8_sectionWithColumn_7 : decode cX8_sectionWithColumn 7 = .ok (.iload_n 2, 1) := by decide +kernel
theorem dX8_sectionWithColumn_8 : decode cX8_sectionWithColumn 8 = .ok (.invokevirtual 376, 3) := by decide +kernel
theorem dX8_sectionWithColumn_11 : decode cX8_sectionWithColumn 11 = .ok (.ifCond .ne 14, 3) := by decide +kernel
theorem dX8_sectionWithColumn_14 : decode cX8_sectionWithColumn 14 = .ok (.new 137, 3) := by decide +kernel
theorem dX8_sectionWithColumn_17 : decode cX8_sectionWithColumn 17 = .ok (.dup, 1) := by decide +kernel
theorem dX8_sectionWithColumn_18 : decode cX8_sectionWithColumn 18 = .ok (.ldc_w 379, 3) := by decide +kernel
theorem dX8_sectionWithColumn_21 : decode cX8_sectionWithColumn 21 = .ok (.invokespecial 141, 3) := by decide +kernel
theorem dX8_sectionWithColumn_24 : decode cX8_sectionWithColumn 24 = .ok (.athrow, 1) := by decide +kernel
theorem dX8_sectionWithColumn_25 : decode cX8_sectionWithColumn 25 = .ok (.aload_n 3, 1) := by decide +kernel
theorem dX8_sectionWithColumn_26 : decode cX8_sectionWithColumn 26 = .ok (.areturn, 1) := by decide +kernel
theorem dX8_isPeriod_0 : decode cX8_isPeriod 0 = .ok (.iconst 0, 1) := by decide +kernel
theorem dX8_isPeriod_1 : decode cX8_isPeriod 1 = .ok (.istore_n 2, 1) := by decide +kernel
theorem dX8_isPeriod_2 : decode cX8_isPeriod 2 = .ok (.iload_n 2, 1) := by decide +kernel
theorem dX8_isPeriod_3 : decode cX8_isPeriod 3 = .ok (.aload_n 0, 1) := by decide +kernel
theorem dX8_isPeriod_4 : decode cX8_isPeriod 4 = .ok (.getfield 12, 3) := by decide +kernel
theorem dX8_isPeriod_7 : decode cX8_isPeriod 7 = .ok (.getfield 113, 3) := by decide +kernel
theorem dX8_isPeriod_10 : decode cX8_isPeriod 10 = .ok (.if_icmp .ge 27, 3) := by decide +kernel
theorem dX8_isPeriod_13 : decode cX8_isPeriod 13 = .ok (.aload_n 0, 1) := by decide +kernel
theorem dX8_isPeriod_14 : decode cX8_isPeriod 14 = .ok (.iload_n 2, 1) := by decide +kernel
theorem dX8_isPeriod_15 : decode cX8_isPeriod 15 = .ok (.invokevirtual 200, 3) := by decide +kernel
theorem dX8_isPeriod_18 : decode cX8_isPeriod 18 = .ok (.istore_n 3, 1) := by decide +kernel
theorem dX8_isPeriod_19 : decode cX8_isPeriod 19 = .ok (.iload_n 3, 1) := by decide +kernel
theorem dX8_isPeriod_20 : decode cX8_isPeriod 20 = .ok (.ifCond .eq 9, 3) := by decide +kernel
theorem dX8_isPeriod_23 : decode cX8_isPeriod 23 = .ok (.iload_n 1, 1) := by decide +kernel
theorem dX8_isPeriod_24 : decode cX8_isPeriod 24 = .ok (.iload_n 3, 1) := by decide +kernel
theorem dX8_isPeriod_25 : decode cX8_isPeriod 25 = .ok (.irem, 1) := by decide +kernel
theorem dX8_isPeriod_26 : decode cX8_isPeriod 26 = .ok (.ifCond .eq 5, 3) := by decide +kernel
theorem dX8_isPeriod_29 : decode cX8_isPeriod 29 = .ok (.iconst 0, 1) := by decide +kernel
theorem dX8_isPeriod_30 : decode cX8_isPeriod 30 = .ok (.ireturn, 1) := by decide +kernel
theorem dX8_isPeriod_31 : decode cX8_isPeriod 31 = .ok (.iinc 2 1, 3) := by decide +kernel
theorem dX8_isPeriod_34 : decode cX8_isPeriod 34 = .ok (.goto (-32), 3) := by decide +kernel
theorem dX8_isPeriod_37 : decode cX8_isPeriod 37 = .ok (.iconst 1, 1) := by decide +kernel
theorem dX8_isPeriod_38 : decode cX8_isPeriod 38 = .ok (.ireturn, 1) := by decide +kernel
theorem dX8_soundsVolume_0 : decode cX8_soundsVolume 0 = .ok (.lconst 0, 1) := by decide +kernel
theorem dX8_soundsVolume_1 : decode cX8_soundsVolume 1 = .ok (.lstore_n 2, 1) := by decide +kernel
theorem dX8_soundsVolume_2 : decode cX8_soundsVolume 2 = .ok (.iconst 1, 1) := by decide +kernel
theorem dX8_soundsVolume_3 : decode cX8_soundsVolume 3 = .ok (.istore 4, 2) := by decide +kernel
theorem dX8_soundsVolume_5 : decode cX8_soundsVolume 5 = .ok (.iload 4, 2) := by decide +kernel
theorem dX8_soundsVolume_7 : decode cX8_soundsVolume 7 = .ok (.bipush 9, 2) := by decide +kernel
theorem dX8_soundsVolume_9 : decode cX8_soundsVolume 9 = .ok (.if_icmp .gt 31, 3) := by decide +kernel
theorem dX8_soundsVolume_12 : decode cX8_soundsVolume 12 = .ok (.lload_n 2, 1) := by decide +kernel
theorem dX8_soundsVolume_13 : decode cX8_soundsVolume 13 = .ok (.aload_n 0, 1) := by decide +kernel
theorem dX8_soundsVolume_14 : decode cX8_soundsVolume 14 = .ok (.getfield 12, 3) := by decide +kernel
theorem dX8_soundsVolume_17 : decode cX8_soundsVolume 17 = .ok (.iload_n 1, 1) := by decide +kernel
theorem dX8_soundsVolume_18 : decode cX8_soundsVolume 18 = .ok (.iload 4, 2) := by decide +kernel
theorem dX8_soundsVolume_20 : decode cX8_soundsVolume 20 = .ok (.invokevirtual 235, 3) := by decide +kernel
theorem dX8_soundsVolume_23 : decode cX8_soundsVolume 23 = .ok (.i2l, 1) := by decide +kernel
theorem dX8_soundsVolume_24 : decode cX8_soundsVolume 24 = .ok (.iload_n 1, 1) := by decide +kernel
theorem dX8_soundsVolume_25 : decode cX8_soundsVolume 25 = .ok (.iload 4, 2) := by decide +kernel
theorem dX8_soundsVolume_27 : decode cX8_soundsVolume 27 = .ok (.invokestatic 180, 3) := by decide +kernel
theorem dX8_soundsVolume_30 : decode cX8_soundsVolume 30 = .ok (.i2l, 1) := by decide +kernel
theorem dX8_soundsVolume_31 : decode cX8_soundsVolume 31 = .ok (.lmul, 1) := by decide +kernel
theorem dX8_soundsVolume_32 : decode cX8_soundsVolume 32 = .ok (.ladd, 1) := by decide +kernel
theorem dX8_soundsVolume_33 : decode cX8_soundsVolume 33 = .ok (.lstore_n 2, 1) := by decide +kernel
theorem dX8_soundsVolume_34 : decode cX8_soundsVolume 34 = .ok (.iinc 4 1, 3) := by decide +kernel
theorem dX8_soundsVolume_37 : decode cX8_soundsVolume 37 = .ok (.goto (-32), 3) := by decide +kernel
theorem dX8_soundsVolume_40 : decode cX8_soundsVolume 40 = .ok (.lload_n 2, 1) := by decide +kernel
theorem dX8_soundsVolume_41 : decode cX8_soundsVolume 41 = .ok (.lreturn, 1) := by decide +kernel
theorem dX8_columnVolumesAgree_0 : decode cX8_columnVolumesAgree 0 = .ok (.iconst 0, 1) := by decide +kernel
theorem dX8_columnVolumesAgree_1 : decode cX8_columnVolumesAgree 1 = .ok (.istore_n 1, 1) := by decide +kernel
theorem dX8_columnVolumesAgree_2 : decode cX8_columnVolumesAgree 2 = .ok (.iload_n 1, 1) := by decide +kernel
theorem dX8_columnVolumesAgree_3 : decode cX8_columnVolumesAgree 3 = .ok (.aload_n 0, 1) := by decide +kernel
theorem dX8_columnVolumesAgree_4 : decode cX8_columnVolumesAgree 4 = .ok (.getfield 12, 3) := by decide +kernel
theorem dX8_columnVolumesAgree_7 : decode cX8_columnVolumesAgree 7 = .ok (.getfield 113, 3) := by decide +kernel
theorem dX8_columnVolumesAgree_10 : decode cX8_columnVolumesAgree 10 = .ok (.if_icmp .ge 43, 3) := by decide +kernel
theorem dX8_columnVolumesAgree_13 : decode cX8_columnVolumesAgree 13 = .ok (.iconst 0, 1) := by decide +kernel
theorem dX8_columnVolumesAgree_14 : decode cX8_columnVolumesAgree 14 = .ok (.istore_n 2, 1) := by decide +kernel
theorem dX8_columnVolumesAgree_15 : decode cX8_columnVolumesAgree 15 = .ok (.iload_n 2, 1) := by decide +kernel
theorem dX8_columnVolumesAgree_16 : decode cX8_columnVolumesAgree 16 = .ok (.aload_n 0, 1) := by decide +kernel
theorem dX8_columnVolumesAgree_17 : decode cX8_columnVolumesAgree 17 = .ok (.iload_n 1, 1) := by decide +kernel
theorem dX8_columnVolumesAgree_18 : decode cX8_columnVolumesAgree 18 = .ok (.invokevirtual 200, 3) := by decide +kernel
theorem dX8_columnVolumesAgree_21 : decode cX8_columnVolumesAgree 21 = .ok (.if_icmp .ge 26, 3) := by decide +kernel
theorem dX8_columnVolumesAgree_24 : decode cX8_columnVolumesAgree 24 = .ok (.aload_n 0, 1) := by decide +kernel
theorem dX8_columnVolumesAgree_25 : decode cX8_columnVolumesAgree 25 = .ok (.iload_n 1, 1) := by decide +kernel
theorem dX8_columnVolumesAgree_26 : decode cX8_columnVolumesAgree 26 = .ok (.iload_n 2, 1) := by decide +kernel
theorem dX8_columnVolumesAgree_27 : decode cX8_columnVolumesAgree 27 = .ok (.invokevirtual 381, 3) := by decide +kernel
theorem dX8_columnVolumesAgree_30 : decode cX8_columnVolumesAgree 30 = .ok (.aload_n 0, 1) := by decide +kernel
theorem dX8_columnVolumesAgree_31 : decode cX8_columnVolumesAgree 31 = .ok (.iload_n 1, 1) := by decide +kernel
theorem dX8_columnVolumesAgree_32 : decode cX8_columnVolumesAgree 32 = .ok (.iload_n 2, 1) := by decide +kernel
theorem dX8_columnVolumesAgree_33 : decode cX8_columnVolumesAgree 33 = .ok (.invokevirtual 384, 3) := by decide +kernel
theorem dX8_columnVolumesAgree_36 : decode cX8_columnVolumesAgree 36 = .ok (.if_icmp .eq 5, 3) := by decide +kernel
theorem dX8_columnVolumesAgree_39 : decode cX8_columnVolumesAgree 39 = .ok (.iconst 0, 1) := by decide +kernel
theorem dX8_columnVolumesAgree_40 : decode cX8_columnVolumesAgree 40 = .ok (.ireturn, 1) := by decide +kernel
theorem dX8_columnVolumesAgree_41 : decode cX8_columnVolumesAgree 41 = .ok (.iinc 2 1, 3) := by decide +kernel
theorem dX8_columnVolumesAgree_44 : decode cX8_columnVolumesAgree 44 = .ok (.goto (-29), 3) := by decide +kernel
theorem dX8_columnVolumesAgree_47 : decode cX8_columnVolumesAgree 47 = .ok (.iinc 1 1, 3) := by decide +kernel
theorem dX8_columnVolumesAgree_50 : decode cX8_columnVolumesAgree 50 = .ok (.goto (-48), 3) := by decide +kernel
theorem dX8_columnVolumesAgree_53 : decode cX8_columnVolumesAgree 53 = .ok (.iconst 1, 1) := by decide +kernel
theorem dX8_columnVolumesAgree_54 : decode cX8_columnVolumesAgree 54 = .ok (.ireturn, 1) := by decide +kernel
theorem dX8_sectionRank_0 : decode cX8_sectionRank 0 = .ok (.iconst 0, 1) := by decide +kernel
theorem dX8_sectionRank_1 : decode cX8_sectionRank 1 = .ok (.istore_n 2, 1) := by decide +kernel
theorem dX8_sectionRank_2 : decode cX8_sectionRank 2 = .ok (.iconst 0, 1) := by decide +kernel
theorem dX8_sectionRank_3 : decode cX8_sectionRank 3 = .ok (.istore_n 3, 1) := by decide +kernel
theorem dX8_sectionRank_4 : decode cX8_sectionRank 4 = .ok (.iload_n 3, 1) := by decide +kernel
theorem dX8_sectionRank_5 : decode cX8_sectionRank 5 = .ok (.aload_n 0, 1) := by decide +kernel
theorem dX8_sectionRank_6 : decode cX8_sectionRank 6 = .ok (.getfield 12, 3) := by decide +kernel
theorem dX8_sectionRank_9 : decode cX8_sectionRank 9 = .ok (.getfield 113, 3) := by decide +kernel
theorem dX8_sectionRank_12 : decode cX8_sectionRank 12 = .ok (.if_icmp .ge 21, 3) := by decide +kernel
theorem dX8_sectionRank_15 : decode cX8_sectionRank 15 = .ok (.aload_n 0, 1) := by decide +kernel
theorem dX8_sectionRank_16 : decode cX8_sectionRank 16 = .ok (.iload_n 3, 1) := by decide +kernel
theorem dX8_sectionRank_17 : decode cX8_sectionRank 17 = .ok (.iload_n 1, 1) := by decide +kernel
theorem dX8_sectionRank_18 : decode cX8_sectionRank 18 = .ok (.invokevirtual 387, 3) := by decide +kernel
theorem dX8_sectionRank_21 : decode cX8_sectionRank 21 = .ok (.ifCond .eq 6, 3) := by decide +kernel
theorem dX8_sectionRank_24 : decode cX8_sectionRank 24 = .ok (.iinc 2 1, 3) := by decide +kernel
theorem dX8_sectionRank_27 : decode cX8_sectionRank 27 = .ok (.iinc 3 1, 3) := by decide +kernel
theorem dX8_sectionRank_30 : decode cX8_sectionRank 30 = .ok (.goto (-26), 3) := by decide +kernel
theorem dX8_sectionRank_33 : decode cX8_sectionRank 33 = .ok (.iload_n 2, 1) := by decide +kernel
theorem dX8_sectionRank_34 : decode cX8_sectionRank 34 = .ok (.ireturn, 1) := by decide +kernel
theorem dX8_precedes_0 : decode cX8_precedes 0 = .ok (.aload_n 0, 1) := by decide +kernel
theorem dX8_precedes_1 : decode cX8_precedes 1 = .ok (.iload_n 1, 1) := by decide +kernel
theorem dX8_precedes_2 : decode cX8_precedes 2 = .ok (.invokevirtual 390, 3) := by decide +kernel
theorem dX8_precedes_5 : decode cX8_precedes 5 = .ok (.aload_n 0, 1) := by decide +kernel
theorem dX8_precedes_6 : decode cX8_precedes 6 = .ok (.iload_n 2, 1) := by decide +kernel
theorem dX8_precedes_7 : decode cX8_precedes 7 = .ok (.invokevirtual 390, 3) := by decide +kernel
theorem dX8_precedes_10 : decode cX8_precedes 10 = .ok (.if_icmp .eq 22, 3) := by decide +kernel
theorem dX8_precedes_13 : decode cX8_precedes 13 = .ok (.aload_n 0, 1) := by decide +kernel
theorem dX8_precedes_14 : decode cX8_precedes 14 = .ok (.iload_n 1, 1) := by decide +kernel
theorem dX8_precedes_15 : decode cX8_precedes 15 = .ok (.invokevirtual 390, 3) := by decide +kernel
theorem dX8_precedes_18 : decode cX8_precedes 18 = .ok (.aload_n 0, 1) := by decide +kernel
theorem dX8_precedes_19 : decode cX8_precedes 19 = .ok (.iload_n 2, 1) := by decide +kernel
theorem dX8_precedes_20 : decode cX8_precedes 20 = .ok (.invokevirtual 390, 3) := by decide +kernel
theorem dX8_precedes_23 : decode cX8_precedes 23 = .ok (.if_icmp .le 7, 3) := by decide +kernel
theorem dX8_precedes_26 : decode cX8_precedes 26 = .ok (.iconst 1, 1) := by decide +kernel
theorem dX8_precedes_27 : decode cX8_precedes 27 = .ok (.goto 4, 3) := by decide +kernel
theorem dX8_precedes_30 : decode cX8_precedes 30 = .ok (.iconst 0, 1) := by decide +kernel
theorem dX8_precedes_31 : decode cX8_precedes 31 = .ok (.ireturn, 1) := by decide +kernel
theorem dX8_precedes_32 : decode cX8_precedes 32 = .ok (.aload_n 0, 1) := by decide +kernel
theorem dX8_precedes_33 : decode cX8_precedes 33 = .ok (.iload_n 1, 1) := by decide +kernel
theorem dX8_precedes_34 : decode cX8_precedes 34 = .ok (.invokevirtual 393, 3) := by decide +kernel
theorem dX8_precedes_37 : decode cX8_precedes 37 = .ok (.aload_n 0, 1) := by decide +kernel
theorem dX8_precedes_38 : decode cX8_precedes 38 = .ok (.iload_n 2, 1) := by decide +kernel
theorem dX8_precedes_39 : decode cX8_precedes 39 = .ok (.invokevirtual 393, 3) := by decide +kernel
theorem dX8_precedes_42 : decode cX8_precedes 42 = .ok (.if_icmp .eq 22, 3) := by decide +kernel
theorem dX8_precedes_45 : decode cX8_precedes 45 = .ok (.aload_n 0, 1) := by decide +kernel
theorem dX8_precedes_46 : decode cX8_precedes 46 = .ok (.iload_n 1, 1) := by decide +kernel
theorem dX8_precedes_47 : decode cX8_precedes 47 = .ok (.invokevirtual 393, 3) := by decide +kernel
theorem dX8_precedes_50 : decode cX8_precedes 50 = .ok (.aload_n 0, 1) := by decide +kernel
theorem dX8_precedes_51 : decode cX8_precedes 51 = .ok (.iload_n 2, 1) := by decide +kernel
theorem dX8_precedes_52 : decode cX8_precedes 52 = .ok (.invokevirtual 393, 3) := by decide +kernel
theorem dX8_precedes_55 : decode cX8_precedes 55 = .ok (.if_icmp .ge 7, 3) := by decide +kernel
theorem dX8_precedes_58 : decode cX8_precedes 58 = .ok (.iconst 1, 1) := by decide +kernel
theorem dX8_precedes_59 : decode cX8_precedes 59 = .ok (.goto 4, 3) := by decide +kernel
theorem dX8_precedes_62 : decode cX8_precedes 62 = .ok (.iconst 0, 1) := by decide +kernel
theorem dX8_precedes_63 : decode cX8_precedes 63 = .ok (.ireturn, 1) := by decide +kernel
theorem dX8_precedes_64 : decode cX8_precedes 64 = .ok (.iload_n 1, 1) := by decide +kernel
theorem dX8_precedes_65 : decode cX8_precedes 65 = .ok (.iload_n 2, 1) := by decide +kernel
theorem dX8_precedes_66 : decode cX8_precedes 66 = .ok (.if_icmp .ge 7, 3) := by decide +kernel
theorem dX8_precedes_69 : decode cX8_precedes 69 = .ok (.iconst 1, 1) := by decide +kernel
theorem dX8_precedes_70 : decode cX8_precedes 70 = .ok (.goto 4, 3) := by decide +kernel
theorem dX8_precedes_73 : decode cX8_precedes 73 = .ok (.iconst 0, 1) := by decide +kernel
theorem dX8_precedes_74 : decode cX8_precedes 74 = .ok (.ireturn, 1) := by decide +kernel
theorem dX8_noteRank_0 : decode cX8_noteRank 0 = .ok (.aload_n 0, 1) := by decide +kernel
theorem dX8_noteRank_1 : decode cX8_noteRank 1 = .ok (.getfield 12, 3) := by decide +kernel
theorem dX8_noteRank_4 : decode cX8_noteRank 4 = .ok (.iload_n 1, 1) := by decide +kernel
theorem dX8_noteRank_5 : decode cX8_noteRank 5 = .ok (.invokevirtual 395, 3) := by decide +kernel
theorem dX8_noteRank_8 : decode cX8_noteRank 8 = .ok (.istore_n 2, 1) := by decide +kernel
theorem dX8_noteRank_9 : decode cX8_noteRank 9 = .ok (.iconst 0, 1) := by decide +kernel
theorem dX8_noteRank_10 : decode cX8_noteRank 10 = .ok (.istore_n 3, 1) := by decide +kernel
theorem dX8_noteRank_11 : decode cX8_noteRank 11 = .ok (.iconst 1, 1) := by decide +kernel
theorem dX8_noteRank_12 : decode cX8_noteRank 12 = .ok (.istore 4, 2) := by decide +kernel
theorem dX8_noteRank_14 : decode cX8_noteRank 14 = .ok (.iload 4, 2) := by decide +kernel
theorem dX8_noteRank_16 : decode cX8_noteRank 16 = .ok (.bipush 9, 2) := by decide +kernel
theorem dX8_noteRank_18 : decode cX8_noteRank 18 = .ok (.if_icmp .gt 41, 3) := by decide +kernel
theorem dX8_noteRank_21 : decode cX8_noteRank 21 = .ok (.aload_n 0, 1) := by decide +kernel
theorem dX8_noteRank_22 : decode cX8_noteRank 22 = .ok (.getfield 12, 3) := by decide +kernel
theorem dX8_noteRank_25 : decode cX8_noteRank 25 = .ok (.iload 4, 2) := by decide +kernel
theorem dX8_noteRank_27 : decode cX8_noteRank 27 = .ok (.invokevirtual 395, 3) := by decide +kernel
theorem dX8_noteRank_30 : decode cX8_noteRank 30 = .ok (.istore 5, 2) := by decide +kernel
theorem dX8_noteRank_32 : decode cX8_noteRank 32 = .ok (.iload 5, 2) := by decide +kernel
theorem dX8_noteRank_34 : decode cX8_noteRank 34 = .ok (.iload_n 2, 1) := by decide +kernel
theorem dX8_noteRank_35 : decode cX8_noteRank 35 = .ok (.if_icmp .gt 15, 3) := by decide +kernel
theorem dX8_noteRank_38 : decode cX8_noteRank 38 = .ok (.iload 5, 2) := by decide +kernel
theorem dX8_noteRank_40 : decode cX8_noteRank 40 = .ok (.iload_n 2, 1) := by decide +kernel
theorem dX8_noteRank_41 : decode cX8_noteRank 41 = .ok (.if_icmp .ne 12, 3) := by decide +kernel
theorem dX8_noteRank_44 : decode cX8_noteRank 44 = .ok (.iload 4, 2) := by decide +kernel
theorem dX8_noteRank_46 : decode cX8_noteRank 46 = .ok (.iload_n 1, 1) := by decide +kernel
theorem dX8_noteRank_47 : decode cX8_noteRank 47 = .ok (.if_icmp .le 6, 3) := by decide +kernel
theorem dX8_noteRank_50 : decode cX8_noteRank 50 = .ok (.iinc 3 1, 3) := by decide +kernel
theorem dX8_noteRank_53 : decode cX8_noteRank 53 = .ok (.iinc 4 1, 3) := by decide +kernel
theorem dX8_noteRank_56 : decode cX8_noteRank 56 = .ok (.goto (-42), 3) := by decide +kernel
theorem dX8_noteRank_59 : decode cX8_noteRank 59 = .ok (.iload_n 3, 1) := by decide +kernel
theorem dX8_noteRank_60 : decode cX8_noteRank 60 = .ok (.ireturn, 1) := by decide +kernel
theorem dX8_perform_0 : decode cX8_perform 0 = .ok (.aload_n 1, 1) := by decide +kernel
theorem dX8_perform_1 : decode cX8_perform 1 = .ok (.iconst 0, 1) := by decide +kernel
theorem dX8_perform_2 : decode cX8_perform 2 = .ok (.invokevirtual 398, 3) := by decide +kernel
theorem dX8_perform_5 : decode cX8_perform 5 = .ok (.istore_n 2, 1) := by decide +kernel
theorem dX8_perform_6 : decode cX8_perform 6 = .ok (.aload_n 1, 1) := by decide +kernel
theorem dX8_perform_7 : decode cX8_perform 7 = .ok (.iconst 1, 1) := by decide +kernel
theorem dX8_perform_8 : decode cX8_perform 8 = .ok (.invokevirtual 398, 3) := by decide +kernel
theorem dX8_perform_11 : decode cX8_perform 11 = .ok (.istore_n 3, 1) := by decide +kernel
theorem dX8_perform_12 : decode cX8_perform 12 = .ok (.aload_n 1, 1) := by decide +kernel
theorem dX8_perform_13 : decode cX8_perform 13 = .ok (.iconst 2, 1) := by decide +kernel
theorem dX8_perform_14 : decode cX8_perform 14 = .ok (.invokevirtual 398, 3) := by decide +kernel
theorem dX8_perform_17 : decode cX8_perform 17 = .ok (.istore 4, 2) := by decide +kernel
theorem dX8_perform_19 : decode cX8_perform 19 = .ok (.getstatic 403, 3) := by decide +kernel
theorem dX8_perform_22 : decode cX8_perform 22 = .ok (.aload_n 1, 1) := by decide +kernel
theorem dX8_perform_23 : decode cX8_perform 23 = .ok (.getfield 409, 3) := by decide +kernel
theorem dX8_perform_26 : decode cX8_perform 26 = .ok (.invokevirtual 413, 3) := by decide +kernel
theorem dX8_perform_29 : decode cX8_perform 29 = .ok (.iaload, 1) := by decide +kernel
theorem dX8_perform_30 : decode cX8_perform 30 = .ok (.tableswitch 177 1 10 #[54, 67, 76, 93, 113, 122, 131, 144, 153, 162], 54) := by decide +kernel
theorem dX8_perform_84 : decode cX8_perform 84 = .ok (.aload_n 0, 1) := by decide +kernel
theorem dX8_perform_85 : decode cX8_perform 85 = .ok (.getfield 12, 3) := by decide +kernel
theorem dX8_perform_88 : decode cX8_perform 88 = .ok (.iload_n 2, 1) := by decide +kernel
theorem dX8_perform_89 : decode cX8_perform 89 = .ok (.i2c, 1) := by decide +kernel
theorem dX8_perform_90 : decode cX8_perform 90 = .ok (.iload_n 3, 1) := by decide +kernel
theorem dX8_perform_91 : decode cX8_perform 91 = .ok (.iload 4, 2) := by decide +kernel
theorem dX8_perform_93 : decode cX8_perform 93 = .ok (.invokevirtual 65, 3) := by decide +kernel
theorem dX8_perform_96 : decode cX8_perform 96 = .ok (.ireturn, 1) := by decide +kernel
theorem dX8_perform_97 : decode cX8_perform 97 = .ok (.aload_n 0, 1) := by decide +kernel
theorem dX8_perform_98 : decode cX8_perform 98 = .ok (.getfield 12, 3) := by decide +kernel
theorem dX8_perform_101 : decode cX8_perform 101 = .ok (.iload_n 2, 1) := by decide +kernel
theorem dX8_perform_102 : decode cX8_perform 102 = .ok (.invokevirtual 73, 3) := by decide +kernel
theorem dX8_perform_105 : decode cX8_perform 105 = .ok (.ireturn, 1) := by decide +kernel
theorem dX8_perform_106 : decode cX8_perform 106 = .ok (.aload_n 0, 1) := by decide +kernel
theorem dX8_perform_107 : decode cX8_perform 107 = .ok (.getfield 12, 3) := by decide +kernel
theorem dX8_perform_110 : decode cX8_perform 110 = .ok (.iload_n 2, 1) := by decide +kernel
theorem dX8_perform_111 : decode cX8_perform 111 = .ok (.iload_n 3, 1) := by decide +kernel
theorem dX8_perform_112 : decode cX8_perform 112 = .ok (.iload 4, 2) := by decide +kernel
theorem dX8_perform_114 : decode cX8_perform 114 = .ok (.aload_n 1, 1) := by decide +kernel
theorem dX8_perform_115 : decode cX8_perform 115 = .ok (.iconst 3, 1) := by decide +kernel
theorem dX8_perform_116 : decode cX8_perform 116 = .ok (.invokevirtual 398, 3) := by decide +kernel
theorem dX8_perform_119 : decode cX8_perform 119 = .ok (.invokevirtual 76, 3) := by decide +kernel
theorem dX8_perform_122 : decode cX8_perform 122 = .ok (.ireturn, 1) := by decide +kernel
theorem dX8_perform_123 : decode cX8_perform 123 = .ok (.aload_n 0, 1) := by decide +kernel
theorem dX8_perform_124 : decode cX8_perform 124 = .ok (.getfield 12, 3) := by decide +kernel
theorem dX8_perform_127 : decode cX8_perform 127 = .ok (.iload_n 2, 1) := by decide +kernel
theorem dX8_perform_128 : decode cX8_perform 128 = .ok (.iload_n 3, 1) := by decide +kernel
theorem dX8_perform_129 : decode cX8_perform 129 = .ok (.iload 4, 2) := by decide +kernel
theorem dX8_perform_131 : decode cX8_perform 131 = .ok (.ifCond .le 7, 3) := by decide +kernel
theorem dX8_perform_134 : decode cX8_perform 134 = .ok (.iconst 1, 1) := by decide +kernel
theorem dX8_perform_135 : decode cX8_perform 135 = .ok (.goto 4, 3) := by decide +kernel
theorem dX8_perform_138 : decode cX8_perform 138 = .ok (.iconst 0, 1) := by decide +kernel
theorem dX8_perform_139 : decode cX8_perform 139 = .ok (.invokevirtual 80, 3) := by decide +kernel
theorem dX8_perform_142 : decode cX8_perform 142 = .ok (.ireturn, 1) := by decide +kernel
theorem dX8_perform_143 : decode cX8_perform 143 = .ok (.aload_n 0, 1) := by decide +kernel
theorem dX8_perform_144 : decode cX8_perform 144 = .ok (.getfield 12, 3) := by decide +kernel
theorem dX8_perform_147 : decode cX8_perform 147 = .ok (.iload_n 2, 1) := by decide +kernel
theorem dX8_perform_148 : decode cX8_perform 148 = .ok (.invokevirtual 84, 3) := by decide +kernel
theorem dX8_perform_151 : decode cX8_perform 151 = .ok (.ireturn, 1) := by decide +kernel
theorem dX8_perform_152 : decode cX8_perform 152 = .ok (.aload_n 0, 1) := by decide +kernel
theorem dX8_perform_153 : decode cX8_perform 153 = .ok (.getfield 12, 3) := by decide +kernel
theorem dX8_perform_156 : decode cX8_perform 156 = .ok (.iload_n 2, 1) := by decide +kernel
theorem dX8_perform_157 : decode cX8_perform 157 = .ok (.invokevirtual 87, 3) := by decide +kernel
theorem dX8_perform_160 : decode cX8_perform 160 = .ok (.ireturn, 1) := by decide +kernel
theorem dX8_perform_161 : decode cX8_perform 161 = .ok (.aload_n 0, 1) := by decide +kernel
theorem dX8_perform_162 : decode cX8_perform 162 = .ok (.getfield 12, 3) := by decide +kernel
theorem dX8_perform_165 : decode cX8_perform 165 = .ok (.iload_n 2, 1) := by decide +kernel
theorem dX8_perform_166 : decode cX8_perform 166 = .ok (.iload_n 3, 1) := by decide +kernel
theorem dX8_perform_167 : decode cX8_perform 167 = .ok (.iload 4, 2) := by decide +kernel
theorem dX8_perform_169 : decode cX8_perform 169 = .ok (.imul, 1) := by decide +kernel
theorem dX8_perform_170 : decode cX8_perform 170 = .ok (.invokevirtual 90, 3) := by decide +kernel
theorem dX8_perform_173 : decode cX8_perform 173 = .ok (.ireturn, 1) := by decide +kernel
theorem dX8_perform_174 : decode cX8_perform 174 = .ok (.aload_n 0, 1) := by decide +kernel
theorem dX8_perform_175 : decode cX8_perform 175 = .ok (.getfield 12, 3) := by decide +kernel
theorem dX8_perform_178 : decode cX8_perform 178 = .ok (.iload_n 2, 1) := by decide +kernel
theorem dX8_perform_179 : decode cX8_perform 179 = .ok (.invokevirtual 94, 3) := by decide +kernel
theorem dX8_perform_182 : decode cX8_perform 182 = .ok (.ireturn, 1) := by decide +kernel
theorem dX8_perform_183 : decode cX8_perform 183 = .ok (.aload_n 0, 1) := by decide +kernel
theorem dX8_perform_184 : decode cX8_perform 184 = .ok (.getfield 12, 3) := by decide +kernel
theorem dX8_perform_187 : decode cX8_perform 187 = .ok (.iload_n 2, 1) := by decide +kernel
theorem dX8_perform_188 : decode cX8_perform 188 = .ok (.invokevirtual 97, 3) := by decide +kernel
theorem dX8_perform_191 : decode cX8_perform 191 = .ok (.ireturn, 1) := by decide +kernel
theorem dX8_perform_192 : decode cX8_perform 192 = .ok (.aload_n 0, 1) := by decide +kernel
theorem dX8_perform_193 : decode cX8_perform 193 = .ok (.getfield 12, 3) := by decide +kernel
theorem dX8_perform_196 : decode cX8_perform 196 = .ok (.aload_n 0, 1) := by decide +kernel
theorem dX8_perform_197 : decode cX8_perform 197 = .ok (.getfield 12, 3) := by decide +kernel
theorem dX8_perform_200 : decode cX8_perform 200 = .ok (.getfield 100, 3) := by decide +kernel
theorem dX8_perform_203 : decode cX8_perform 203 = .ok (.invokevirtual 103, 3) := by decide +kernel
theorem dX8_perform_206 : decode cX8_perform 206 = .ok (.ireturn, 1) := by decide +kernel
theorem dX8_perform_207 : decode cX8_perform 207 = .ok (.iload_n 2, 1) := by decide +kernel
theorem dX8_perform_208 : decode cX8_perform 208 = .ok (.invokestatic 106, 3) := by decide +kernel
theorem dX8_perform_211 : decode cX8_perform 211 = .ok (.ifCond .eq 14, 3) := by decide +kernel
theorem dX8_perform_214 : decode cX8_perform 214 = .ok (.aload_n 0, 1) := by decide +kernel
theorem dX8_perform_215 : decode cX8_perform 215 = .ok (.getfield 12, 3) := by decide +kernel
theorem dX8_perform_218 : decode cX8_perform 218 = .ok (.iload_n 2, 1) := by decide +kernel
theorem dX8_perform_219 : decode cX8_perform 219 = .ok (.invokevirtual 103, 3) := by decide +kernel
theorem dX8_perform_222 : decode cX8_perform 222 = .ok (.goto 5, 3) := by decide +kernel
theorem dX8_perform_225 : decode cX8_perform 225 = .ok (.bipush (-2), 2) := by decide +kernel
theorem dX8_perform_227 : decode cX8_perform 227 = .ok (.ireturn, 1) := by decide +kernel
theorem dX8_kindIndex_0 : decode cX8_kindIndex 0 = .ok (.iload_n 0, 1) := by decide +kernel
theorem dX8_kindIndex_1 : decode cX8_kindIndex 1 = .ok (.lookupswitch 41 #[(100, 39), (115, 35), (119, 37)], 35) := by decide +kernel
theorem dX8_kindIndex_36 : decode cX8_kindIndex 36 = .ok (.iconst 0, 1) := by decide +kernel
theorem dX8_kindIndex_37 : decode cX8_kindIndex 37 = .ok (.ireturn, 1) := by decide +kernel
theorem dX8_kindIndex_38 : decode cX8_kindIndex 38 = .ok (.iconst 1, 1) := by decide +kernel
theorem dX8_kindIndex_39 : decode cX8_kindIndex 39 = .ok (.ireturn, 1) := by decide +kernel
theorem dX8_kindIndex_40 : decode cX8_kindIndex 40 = .ok (.iconst 2, 1) := by decide +kernel
theorem dX8_kindIndex_41 : decode cX8_kindIndex 41 = .ok (.ireturn, 1) := by decide +kernel
theorem dX8_kindIndex_42 : decode cX8_kindIndex 42 = .ok (.iconst (-1), 1) := by decide +kernel
theorem dX8_kindIndex_43 : decode cX8_kindIndex 43 = .ok (.ireturn, 1) := by decide +kernel
theorem dX8_volumeOf_0 : decode cX8_volumeOf 0 = .ok (.iload_n 1, 1) := by decide +kernel
theorem dX8_volumeOf_1 : decode cX8_volumeOf 1 = .ok (.ifCond .eq 9, 3) := by decide +kernel
theorem dX8_volumeOf_4 : decode cX8_volumeOf 4 = .ok (.iload_n 0, 1) := by decide +kernel
theorem dX8_volumeOf_5 : decode cX8_volumeOf 5 = .ok (.bipush 115, 2) := by decide +kernel
theorem dX8_volumeOf_7 : decode cX8_volumeOf 7 = .ok (.if_icmp .ne 5, 3) := by decide +kernel
theorem dX8_volumeOf_10 : decode cX8_volumeOf 10 = .ok (.iload_n 1, 1) := by decide +kernel
theorem dX8_volumeOf_11 : decode cX8_volumeOf 11 = .ok (.ireturn, 1) := by decide +kernel
theorem dX8_volumeOf_12 : decode cX8_volumeOf 12 = .ok (.iload_n 0, 1) := by decide +kernel
theorem dX8_volumeOf_13 : decode cX8_volumeOf 13 = .ok (.bipush 119, 2) := by decide +kernel
theorem dX8_volumeOf_15 : decode cX8_volumeOf 15 = .ok (.if_icmp .ne 18, 3) := by decide +kernel
theorem dX8_volumeOf_18 : decode cX8_volumeOf 18 = .ok (.iload_n 1, 1) := by decide +kernel
theorem dX8_volumeOf_19 : decode cX8_volumeOf 19 = .ok (.bipush 6, 2) := by decide +kernel
theorem dX8_volumeOf_21 : decode cX8_volumeOf 21 = .ok (.if_icmp .le 8, 3) := by decide +kernel
theorem dX8_volumeOf_24 : decode cX8_volumeOf 24 = .ok (.bipush 12, 2) := by decide +kernel
theorem dX8_volumeOf_26 : decode cX8_volumeOf 26 = .ok (.goto 6, 3) := by decide +kernel
theorem dX8_volumeOf_29 : decode cX8_volumeOf 29 = .ok (.iconst 2, 1) := by decide +kernel
theorem dX8_volumeOf_30 : decode cX8_volumeOf 30 = .ok (.iload_n 1, 1) := by decide +kernel
theorem dX8_volumeOf_31 : decode cX8_volumeOf 31 = .ok (.imul, 1) := by decide +kernel
theorem dX8_volumeOf_32 : decode cX8_volumeOf 32 = .ok (.ireturn, 1) := by decide +kernel
theorem dX8_volumeOf_33 : decode cX8_volumeOf 33 = .ok (.iload_n 1, 1) := by decide +kernel
theorem dX8_volumeOf_34 : decode cX8_volumeOf 34 = .ok (.iconst 2, 1) := by decide +kernel
theorem dX8_volumeOf_35 : decode cX8_volumeOf 35 = .ok (.irem, 1) := by decide +kernel
theorem dX8_volumeOf_36 : decode cX8_volumeOf 36 = .ok (.ifCond .ne 7, 3) := by decide +kernel
theorem dX8_volumeOf_39 : decode cX8_volumeOf 39 = .ok (.iconst 1, 1) := by decide +kernel
theorem dX8_volumeOf_40 : decode cX8_volumeOf 40 = .ok (.goto 4, 3) := by decide +kernel
theorem dX8_volumeOf_43 : decode cX8_volumeOf 43 = .ok (.iconst 5, 1) := by decide +kernel
theorem dX8_volumeOf_44 : decode cX8_volumeOf 44 = .ok (.ireturn, 1) := by decide +kernel
theorem dX8_isSide_0 : decode cX8_isSide 0 = .ok (.iload_n 0, 1) := by decide +kernel
theorem dX8_isSide_1 : decode cX8_isSide 1 = .ok (.iconst 1, 1) := by decide +kernel
theorem dX8_isSide_2 : decode cX8_isSide 2 = .ok (.if_icmp .lt 13, 3) := by decide +kernel
theorem dX8_isSide_5 : decode cX8_isSide 5 = .ok (.iload_n 0, 1) := by decide +kernel
theorem dX8_isSide_6 : decode cX8_isSide 6 = .ok (.bipush 6, 2) := by decide +kernel
theorem dX8_isSide_8 : decode cX8_isSide 8 = .ok (.if_icmp .gt 7, 3) := by decide +kernel
theorem dX8_isSide_11 : decode cX8_isSide 11 = .ok (.iconst 1, 1) := by decide +kernel
theorem dX8_isSide_12 : decode cX8_isSide 12 = .ok (.goto 4, 3) := by decide +kernel
theorem dX8_isSide_15 : decode cX8_isSide 15 = .ok (.iconst 0, 1) := by decide +kernel
theorem dX8_isSide_16 : decode cX8_isSide 16 = .ok (.ireturn, 1) := by decide +kernel
theorem dX8_isMaskColumn_0 : decode cX8_isMaskColumn 0 = .ok (.iload_n 0, 1) := by decide +kernel
theorem dX8_isMaskColumn_1 : decode cX8_isMaskColumn 1 = .ok (.ifCond .lt 13, 3) := by decide +kernel
theorem dX8_isMaskColumn_4 : decode cX8_isMaskColumn 4 = .ok (.iload_n 0, 1) := by decide +kernel
theorem dX8_isMaskColumn_5 : decode cX8_isMaskColumn 5 = .ok (.bipush 6, 2) := by decide +kernel
theorem dX8_isMaskColumn_7 : decode cX8_isMaskColumn 7 = .ok (.if_icmp .ge 7, 3) := by decide +kernel
theorem dX8_isMaskColumn_10 : decode cX8_isMaskColumn 10 = .ok (.iconst 1, 1) := by decide +kernel
theorem dX8_isMaskColumn_11 : decode cX8_isMaskColumn 11 = .ok (.goto 4, 3) := by decide +kernel
theorem dX8_isMaskColumn_14 : decode cX8_isMaskColumn 14 = .ok (.iconst 0, 1) := by decide +kernel
theorem dX8_isMaskColumn_15 : decode cX8_isMaskColumn 15 = .ok (.ireturn, 1) := by decide +kernel
theorem dX8_isBeats_0 : decode cX8_isBeats 0 = .ok (.iload_n 0, 1) := by decide +kernel
theorem dX8_isBeats_1 : decode cX8_isBeats 1 = .ok (.iconst 1, 1) := by decide +kernel
theorem dX8_isBeats_2 : decode cX8_isBeats 2 = .ok (.if_icmp .lt 13, 3) := by decide +kernel
theorem dX8_isBeats_5 : decode cX8_isBeats 5 = .ok (.iload_n 0, 1) := by decide +kernel
theorem dX8_isBeats_6 : decode cX8_isBeats 6 = .ok (.bipush 40, 2) := by decide +kernel
theorem dX8_isBeats_8 : decode cX8_isBeats 8 = .ok (.if_icmp .gt 7, 3) := by decide +kernel
theorem dX8_isBeats_11 : decode cX8_isBeats 11 = .ok (.iconst 1, 1) := by decide +kernel
theorem dX8_isBeats_12 : decode cX8_isBeats 12 = .ok (.goto 4, 3) := by decide +kernel
theorem dX8_isBeats_15 : decode cX8_isBeats 15 = .ok (.iconst 0, 1) := by decide +kernel
theorem dX8_isBeats_16 : decode cX8_isBeats 16 = .ok (.ireturn, 1) := by decide +kernel
theorem dX8_digitSign_0 : decode cX8_digitSign 0 = .ok (.bipush 48, 2) := by decide +kernel
theorem dX8_digitSign_2 : decode cX8_digitSign 2 = .ok (.iload_n 0, 1) := by decide +kernel
theorem dX8_digitSign_3 : decode cX8_digitSign 3 = .ok (.iadd, 1) := by decide +kernel
theorem dX8_digitSign_4 : decode cX8_digitSign 4 = .ok (.i2c, 1) := by decide +kernel
theorem dX8_digitSign_5 : decode cX8_digitSign 5 = .ok (.ireturn, 1) := by decide +kernel
theorem dX8_copyNumbers_0 : decode cX8_copyNumbers 0 = .ok (.aload_n 0, 1) := by decide +kernel
theorem dX8_copyNumbers_1 : decode cX8_copyNumbers 1 = .ok (.iconst 0, 1) := by decide +kernel
theorem dX8_copyNumbers_2 : decode cX8_copyNumbers 2 = .ok (.aload_n 1, 1) := by decide +kernel
theorem dX8_copyNumbers_3 : decode cX8_copyNumbers 3 = .ok (.iconst 0, 1) := by decide +kernel
theorem dX8_copyNumbers_4 : decode cX8_copyNumbers 4 = .ok (.aload_n 0, 1) := by decide +kernel
theorem dX8_copyNumbers_5 : decode cX8_copyNumbers 5 = .ok (.arraylength, 1) := by decide +kernel
theorem dX8_copyNumbers_6 : decode cX8_copyNumbers 6 = .ok (.aload_n 1, 1) := by decide +kernel
theorem dX8_copyNumbers_7 : decode cX8_copyNumbers 7 = .ok (.arraylength, 1) := by decide +kernel
theorem dX8_copyNumbers_8 : decode cX8_copyNumbers 8 = .ok (.invokestatic 418, 3) := by decide +kernel
theorem dX8_copyNumbers_11 : decode cX8_copyNumbers 11 = .ok (.invokestatic 423, 3) := by decide +kernel
theorem dX8_copyNumbers_14 : decode cX8_copyNumbers 14 = .ok (.return_, 1) := by decide +kernel
theorem dX8_leastCommonMultiple_0 : decode cX8_leastCommonMultiple 0 = .ok (.iload_n 0, 1) := by decide +kernel
theorem dX8_leastCommonMultiple_1 : decode cX8_leastCommonMultiple 1 = .ok (.iload_n 1, 1) := by decide +kernel
theorem dX8_leastCommonMultiple_2 : decode cX8_leastCommonMultiple 2 = .ok (.invokestatic 429, 3) := by decide +kernel
theorem dX8_leastCommonMultiple_5 : decode cX8_leastCommonMultiple 5 = .ok (.istore_n 2, 1) := by decide +kernel
theorem dX8_leastCommonMultiple_6 : decode cX8_leastCommonMultiple 6 = .ok (.iload_n 2, 1) := by decide +kernel
theorem dX8_leastCommonMultiple_7 : decode cX8_leastCommonMultiple 7 = .ok (.ifCond .ne 7, 3) := by decide +kernel
theorem dX8_leastCommonMultiple_10 : decode cX8_leastCommonMultiple 10 = .ok (.iconst 0, 1) := by decide +kernel
theorem dX8_leastCommonMultiple_11 : decode cX8_leastCommonMultiple 11 = .ok (.goto 8, 3) := by decide +kernel
theorem dX8_leastCommonMultiple_14 : decode cX8_leastCommonMultiple 14 = .ok (.iload_n 0, 1) := by decide +kernel
theorem dX8_leastCommonMultiple_15 : decode cX8_leastCommonMultiple 15 = .ok (.iload_n 2, 1) := by decide +kernel
theorem dX8_leastCommonMultiple_16 : decode cX8_leastCommonMultiple 16 = .ok (.idiv, 1) := by decide +kernel
theorem dX8_leastCommonMultiple_17 : decode cX8_leastCommonMultiple 17 = .ok (.iload_n 1, 1) := by decide +kernel
theorem dX8_leastCommonMultiple_18 : decode cX8_leastCommonMultiple 18 = .ok (.imul, 1) := by decide +kernel
theorem dX8_leastCommonMultiple_19 : decode cX8_leastCommonMultiple 19 = .ok (.ireturn, 1) := by decide +kernel
theorem dX8_greatestCommonDivisor_0 : decode cX8_greatestCommonDivisor 0 = .ok (.iload_n 0, 1) := by decide +kernel
theorem dX8_greatestCommonDivisor_1 : decode cX8_greatestCommonDivisor 1 = .ok (.istore_n 2, 1) := by decide +kernel
theorem dX8_greatestCommonDivisor_2 : decode cX8_greatestCommonDivisor 2 = .ok (.iload_n 1, 1) := by decide +kernel
theorem dX8_greatestCommonDivisor_3 : decode cX8_greatestCommonDivisor 3 = .ok (.istore_n 3, 1) := by decide +kernel
theorem dX8_greatestCommonDivisor_4 : decode cX8_greatestCommonDivisor 4 = .ok (.iconst 0, 1) := by decide +kernel
theorem dX8_greatestCommonDivisor_5 : decode cX8_greatestCommonDivisor 5 = .ok (.istore 4, 2) := by decide +kernel
theorem dX8_greatestCommonDivisor_7 : decode cX8_greatestCommonDivisor 7 = .ok (.iload 4, 2) := by decide +kernel
theorem dX8_greatestCommonDivisor_9 : decode cX8_greatestCommonDivisor 9 = .ok (.bipush 100, 2) := by decide +kernel
theorem dX8_greatestCommonDivisor_11 : decode cX8_greatestCommonDivisor 11 = .ok (.if_icmp .ge 23, 3) := by decide +kernel
theorem dX8_greatestCommonDivisor_14 : decode cX8_greatestCommonDivisor 14 = .ok (.iload_n 3, 1) := by decide +kernel
theorem dX8_greatestCommonDivisor_15 : decode cX8_greatestCommonDivisor 15 = .ok (.ifCond .eq 19, 3) := by decide +kernel
theorem dX8_greatestCommonDivisor_18 : decode cX8_greatestCommonDivisor 18 = .ok (.iload_n 2, 1) := by decide +kernel
theorem dX8_greatestCommonDivisor_19 : decode cX8_greatestCommonDivisor 19 = .ok (.iload_n 3, 1) := by decide +kernel
theorem dX8_greatestCommonDivisor_20 : decode cX8_greatestCommonDivisor 20 = .ok (.irem, 1) := by decide +kernel
theorem dX8_greatestCommonDivisor_21 : decode cX8_greatestCommonDivisor 21 = .ok (.istore 5, 2) := by decide +kernel
theorem dX8_greatestCommonDivisor_23 : decode cX8_greatestCommonDivisor 23 = .ok (.iload_n 3, 1) := by decide +kernel
theorem dX8_greatestCommonDivisor_24 : decode cX8_greatestCommonDivisor 24 = .ok (.istore_n 2, 1) := by decide +kernel
theorem dX8_greatestCommonDivisor_25 : decode cX8_greatestCommonDivisor 25 = .ok (.iload 5, 2) := by decide +kernel
theorem dX8_greatestCommonDivisor_27 : decode cX8_greatestCommonDivisor 27 = .ok (.istore_n 3, 1) := by decide +kernel
theorem dX8_greatestCommonDivisor_28 : decode cX8_greatestCommonDivisor 28 = .ok (.iinc 4 1, 3) := by decide +kernel
theorem dX8_greatestCommonDivisor_31 : decode cX8_greatestCommonDivisor 31 = .ok (.goto (-24), 3) := by decide +kernel
theorem dX8_greatestCommonDivisor_34 : decode cX8_greatestCommonDivisor 34 = .ok (.iload_n 2, 1) := by decide +kernel
theorem dX8_greatestCommonDivisor_35 : decode cX8_greatestCommonDivisor 35 = .ok (.ireturn, 1) := by decide +kernel
theorem dX9_thrown_0 : decode cX9_thrown 0 = .ok (.aload_n 0, 1) := by decide +kernel
theorem dX9_thrown_1 : decode cX9_thrown 1 = .ok (.getfield 1, 3) := by decide +kernel
theorem dX9_thrown_4 : decode cX9_thrown 4 = .ok (.ireturn, 1) := by decide +kernel
theorem dX9_fails_0 : decode cX9_fails 0 = .ok (.aload_n 0, 1) := by decide +kernel
theorem dX9_fails_1 : decode cX9_fails 1 = .ok (.iload_n 1, 1) := by decide +kernel
theorem dX9_fails_2 : decode cX9_fails 2 = .ok (.putfield 1, 3) := by decide +kernel
theorem dX9_fails_5 : decode cX9_fails 5 = .ok (.iconst 0, 1) := by decide +kernel
theorem dX9_fails_6 : decode cX9_fails 6 = .ok (.ireturn, 1) := by decide +kernel
theorem dX9_isBetween_0 : decode cX9_isBetween 0 = .ok (.iload_n 1, 1) := by decide +kernel
theorem dX9_isBetween_1 : decode cX9_isBetween 1 = .ok (.iload_n 0, 1) := by decide +kernel
theorem dX9_isBetween_2 : decode cX9_isBetween 2 = .ok (.if_icmp .gt 12, 3) := by decide +kernel
theorem dX9_isBetween_5 : decode cX9_isBetween 5 = .ok (.iload_n 0, 1) := by decide +kernel
theorem dX9_isBetween_6 : decode cX9_isBetween 6 = .ok (.iload_n 2, 1) := by decide +kernel
theorem dX9_isBetween_7 : decode cX9_isBetween 7 = .ok (.if_icmp .gt 7, 3) := by decide +kernel
theorem dX9_isBetween_10 : decode cX9_isBetween 10 = .ok (.iconst 1, 1) := by decide +kernel
theorem dX9_isBetween_11 : decode cX9_isBetween 11 = .ok (.goto 4, 3) := by decide +kernel
theorem dX9_isBetween_14 : decode cX9_isBetween 14 = .ok (.iconst 0, 1) := by decide +kernel
theorem dX9_isBetween_15 : decode cX9_isBetween 15 = .ok (.ireturn, 1) := by decide +kernel
theorem dX9_init_0 : decode cX9_init 0 = .ok (.aload_n 0, 1) := by decide +kernel
theorem dX9_init_1 : decode cX9_init 1 = .ok (.invokespecial 7, 3) := by decide +kernel
theorem dX9_init_4 : decode cX9_init 4 = .ok (.aload_n 0, 1) := by decide +kernel
theorem dX9_init_5 : decode cX9_init 5 = .ok (.sipush 260, 3) := by decide +kernel
theorem dX9_init_8 : decode cX9_init 8 = .ok (.newarray .int, 2) := by decide +kernel
theorem dX9_init_10 : decode cX9_init 10 = .ok (.putfield 13, 3) := by decide +kernel
theorem dX9_init_13 : decode cX9_init 13 = .ok (.aload_n 0, 1) := by decide +kernel
theorem dX9_init_14 : decode cX9_init 14 = .ok (.sipush 2080, 3) := by decide +kernel
theorem dX9_init_17 : decode cX9_init 17 = .ok (.newarray .int, 2) := by decide +kernel
theorem dX9_init_19 : decode cX9_init 19 = .ok (.putfield 17, 3) := by decide +kernel
theorem dX9_init_22 : decode cX9_init 22 = .ok (.aload_n 0, 1) := by decide +kernel
theorem dX9_init_23 : decode cX9_init 23 = .ok (.sipush 260, 3) := by decide +kernel
theorem dX9_init_26 : decode cX9_init 26 = .ok (.newarray .int, 2) := by decide +kernel
theorem dX9_init_28 : decode cX9_init 28 = .ok (.putfield 20, 3) := by decide +kernel
theorem dX9_init_31 : decode cX9_init 31 = .ok (.aload_n 0, 1) := by decide +kernel
theorem dX9_init_32 : decode cX9_init 32 = .ok (.sipush 260, 3) := by decide +kernel
theorem dX9_init_35 : decode cX9_init 35 = .ok (.newarray .int, 2) := by decide +kernel
theorem dX9_init_37 : decode cX9_init 37 = .ok (.putfield 23, 3) := by decide +kernel
theorem dX9_init_40 : decode cX9_init 40 = .ok (.aload_n 0, 1) := by decide +kernel
theorem dX9_init_41 : decode cX9_init 41 = .ok (.sipush 260, 3) := by decide +kernel
theorem dX9_init_44 : decode cX9_init 44 = .ok (.newarray .int, 2) := by decide +kernel
theorem dX9_init_46 : decode cX9_init 46 = .ok (.putfield 26, 3) := by decide +kernel
theorem dX9_init_49 : decode cX9_init 49 = .ok (.aload_n 0, 1) := by decide +kernel
theorem dX9_init_50 : decode cX9_init 50 = .ok (.bipush 60, 2) := by decide +kernel
theorem dX9_init_52 : decode cX9_init 52 = .ok (.newarray .char, 2) := by decide +kernel
theorem dX9_init_54 : decode cX9_init 54 = .ok (.putfield 29, 3) := by decide +kernel
theorem dX9_init_57 : decode cX9_init 57 = .ok (.aload_n 0, 1) := by decide +kernel
theorem dX9_init_58 : decode cX9_init 58 = .ok (.bipush 60, 2) := by decide +kernel
theorem dX9_init_60 : decode cX9_init 60 = .ok (.newarray .char, 2) := by decide +kernel
theorem dX9_init_62 : decode cX9_init 62 = .ok (.putfield 33, 3) := by decide +kernel
theorem dX9_init_65 : decode cX9_init 65 = .ok (.aload_n 0, 1) := by decide +kernel
theorem dX9_init_66 : decode cX9_init 66 = .ok (.iconst (-1), 1) := by decide +kernel
theorem dX9_init_67 : decode cX9_init 67 = .ok (.putfield 36, 3) := by decide +kernel
theorem dX9_init_70 : decode cX9_init 70 = .ok (.aload_n 0, 1) := by decide +kernel
theorem dX9_init_71 : decode cX9_init 71 = .ok (.iconst (-1), 1) := by decide +kernel
theorem dX9_init_72 : decode cX9_init 72 = .ok (.putfield 39, 3) := by decide +kernel
theorem dX9_init_75 : decode cX9_init 75 = .ok (.aload_n 0, 1) := by decide +kernel
theorem dX9_init_76 : decode cX9_init 76 = .ok (.iconst 4, 1) := by decide +kernel
theorem dX9_init_77 : decode cX9_init 77 = .ok (.newarray .int, 2) := by decide +kernel
theorem dX9_init_79 : decode cX9_init 79 = .ok (.putfield 42, 3) := by decide +kernel
theorem dX9_init_82 : decode cX9_init 82 = .ok (.aload_n 0, 1) := by decide +kernel
theorem dX9_init_83 : decode cX9_init 83 = .ok (.getfield 13, 3) := by decide +kernel
theorem dX9_init_86 : decode cX9_init 86 = .ok (.iconst 2, 1) := by decide +kernel
theorem dX9_init_87 : decode cX9_init 87 = .ok (.iconst 2, 1) := by decide +kernel
theorem dX9_init_88 : decode cX9_init 88 = .ok (.iastore, 1) := by decide +kernel
theorem dX9_init_89 : decode cX9_init 89 = .ok (.aload_n 0, 1) := by decide +kernel
theorem dX9_init_90 : decode cX9_init 90 = .ok (.getfield 13, 3) := by decide +kernel
theorem dX9_init_93 : decode cX9_init 93 = .ok (.iconst 3, 1) := by decide +kernel
theorem dX9_init_94 : decode cX9_init 94 = .ok (.bipush 30, 2) := by decide +kernel
theorem dX9_init_96 : decode cX9_init 96 = .ok (.iastore, 1) := by decide +kernel
theorem dX9_init_97 : decode cX9_init 97 = .ok (.return_, 1) := by decide +kernel
theorem dX9_copies_0 : decode cX9_copies 0 = .ok (.iconst 0, 1) := by decide +kernel
theorem dX9_copies_1 : decode cX9_copies 1 = .ok (.istore_n 1, 1) := by decide +kernel
theorem dX9_copies_2 : decode cX9_copies 2 = .ok (.iload_n 1, 1) := by decide +kernel
theorem dX9_copies_3 : decode cX9_copies 3 = .ok (.sipush 260, 3) := by decide +kernel
theorem dX9_copies_6 : decode cX9_copies 6 = .ok (.if_icmp .ge 21, 3) := by decide +kernel
theorem dX9_copies_9 : decode cX9_copies 9 = .ok (.aload_n 0, 1) := by decide +kernel
theorem dX9_copies_10 : decode cX9_copies 10 = .ok (.getfield 23, 3) := by decide +kernel
theorem dX9_copies_13 : decode cX9_copies 13 = .ok (.iload_n 1, 1) := by decide +kernel
theorem dX9_copies_14 : decode cX9_copies 14 = .ok (.aload_n 0, 1) := by decide +kernel
theorem dX9_copies_15 : decode cX9_copies 15 = .ok (.getfield 13, 3) := by decide +kernel
theorem dX9_copies_18 : decode cX9_copies 18 = .ok (.iload_n 1, 1) := by decide +kernel
theorem dX9_copies_19 : decode cX9_copies 19 = .ok (.iaload, 1) := by decide +kernel
theorem dX9_copies_20 : decode cX9_copies 20 = .ok (.iastore, 1) := by decide +kernel
theorem dX9_copies_21 : decode cX9_copies 21 = .ok (.iinc 1 1, 3) := by decide +kernel
theorem dX9_copies_24 : decode cX9_copies 24 = .ok (.goto (-22), 3) := by decide +kernel
theorem dX9_copies_27 : decode cX9_copies 27 = .ok (.return_, 1) := by decide +kernel
theorem dX9_goesBack_0 : decode cX9_goesBack 0 = .ok (.iconst 0, 1) := by decide +kernel
theorem dX9_goesBack_1 : decode cX9_goesBack 1 = .ok (.istore_n 1, 1) := by decide +kernel
theorem dX9_goesBack_2 : decode cX9_goesBack 2 = .ok (.iload_n 1, 1) := by decide +kernel
theorem dX9_goesBack_3 : decode cX9_goesBack 3 = .ok (.sipush 260, 3) := by decide +kernel
theorem dX9_goesBack_6 : decode cX9_goesBack 6 = .ok (.if_icmp .ge 21, 3) := by decide +kernel
theorem dX9_goesBack_9 : decode cX9_goesBack 9 = .ok (.aload_n 0, 1) := by decide +kernel
theorem dX9_goesBack_10 : decode cX9_goesBack 10 = .ok (.getfield 13, 3) := by decide +kernel
theorem dX9_goesBack_13 : decode cX9_goesBack 13 = .ok (.iload_n 1, 1) := by decide +kernel
theorem dX9_goesBack_14 : decode cX9_goesBack 14 = .ok (.aload_n 0, 1) := by decide +kernel
theorem dX9_goesBack_15 : decode cX9_goesBack 15 = .ok (.getfield 23, 3) := by decide +kernel
theorem dX9_goesBack_18 : decode cX9_goesBack 18 = .ok (.iload_n 1, 1) := by decide +kernel
theorem dX9_goesBack_19 : decode cX9_goesBack 19 = .ok (.iaload, 1) := by decide +kernel
theorem dX9_goesBack_20 : decode cX9_goesBack 20 = .ok (.iastore, 1) := by decide +kernel
theorem dX9_goesBack_21 : decode cX9_goesBack 21 = .ok (.iinc 1 1, 3) := by decide +kernel
theorem dX9_goesBack_24 : decode cX9_goesBack 24 = .ok (.goto (-22), 3) := by decide +kernel
theorem dX9_goesBack_27 : decode cX9_goesBack 27 = .ok (.return_, 1) := by decide +kernel
theorem dX9_keeps_0 : decode cX9_keeps 0 = .ok (.aload_n 0, 1) := by decide +kernel
theorem dX9_keeps_1 : decode cX9_keeps 1 = .ok (.getfield 45, 3) := by decide +kernel
theorem dX9_keeps_4 : decode cX9_keeps 4 = .ok (.bipush 8, 2) := by decide +kernel
theorem dX9_keeps_6 : decode cX9_keeps 6 = .ok (.if_icmp .ne 26, 3) := by decide +kernel
theorem dX9_keeps_9 : decode cX9_keeps 9 = .ok (.aload_n 0, 1) := by decide +kernel
theorem dX9_keeps_10 : decode cX9_keeps 10 = .ok (.aload_n 0, 1) := by decide +kernel
theorem dX9_keeps_11 : decode cX9_keeps 11 = .ok (.getfield 48, 3) := by decide +kernel
theorem dX9_keeps_14 : decode cX9_keeps 14 = .ok (.iconst 1, 1) := by decide +kernel
theorem dX9_keeps_15 : decode cX9_keeps 15 = .ok (.iadd, 1) := by decide +kernel
theorem dX9_keeps_16 : decode cX9_keeps 16 = .ok (.bipush 8, 2) := by decide +kernel
theorem dX9_keeps_18 : decode cX9_keeps 18 = .ok (.irem, 1) := by decide +kernel
theorem dX9_keeps_19 : decode cX9_keeps 19 = .ok (.putfield 48, 3) := by decide +kernel
theorem dX9_keeps_22 : decode cX9_keeps 22 = .ok (.aload_n 0, 1) := by decide +kernel
theorem dX9_keeps_23 : decode cX9_keeps 23 = .ok (.dup, 1) := by decide +kernel
theorem dX9_keeps_24 : decode cX9_keeps 24 = .ok (.getfield 45, 3) := by decide +kernel
theorem dX9_keeps_27 : decode cX9_keeps 27 = .ok (.iconst 1, 1) := by decide +kernel
theorem dX9_keeps_28 : decode cX9_keeps 28 = .ok (.isub, 1) := by decide +kernel
theorem dX9_keeps_29 : decode cX9_keeps 29 = .ok (.putfield 45, 3) := by decide +kernel
theorem dX9_keeps_32 : decode cX9_keeps 32 = .ok (.aload_n 0, 1) := by decide +kernel
theorem dX9_keeps_33 : decode cX9_keeps 33 = .ok (.getfield 48, 3) := by decide +kernel
theorem dX9_keeps_36 : decode cX9_keeps 36 = .ok (.aload_n 0, 1) := by decide +kernel
theorem dX9_keeps_37 : decode cX9_keeps 37 = .ok (.getfield 45, 3) := by decide +kernel
theorem dX9_keeps_40 : decode cX9_keeps 40 = .ok (.iadd, 1) := by decide +kernel
theorem dX9_keeps_41 : decode cX9_keeps 41 = .ok (.bipush 8, 2) := by decide +kernel
theorem dX9_keeps_43 : decode cX9_keeps 43 = .ok (.irem, 1) := by decide +kernel
theorem dX9_keeps_44 : decode cX9_keeps 44 = .ok (.istore_n 1, 1) := by decide +kernel
theorem dX9_keeps_45 : decode cX9_keeps 45 = .ok (.iconst 0, 1) := by decide +kernel
theorem dX9_keeps_46 : decode cX9_keeps 46 = .ok (.istore_n 2, 1) := by decide +kernel
theorem dX9_keeps_47 : decode cX9_keeps 47 = .ok (.iload_n 2, 1) := by decide +kernel
theorem dX9_keeps_48 : decode cX9_keeps 48 = .ok (.sipush 260, 3) := by decide +kernel
theorem dX9_keeps_51 : decode cX9_keeps 51 = .ok (.if_icmp .ge 27, 3) := by decide +kernel
theorem dX9_keeps_54 : decode cX9_keeps 54 = .ok (.aload_n 0, 1) := by decide +kernel
theorem dX9_keeps_55 : decode cX9_keeps 55 = .ok (.getfield 17, 3) := by decide +kernel
theorem dX9_keeps_58 : decode cX9_keeps 58 = .ok (.sipush 260, 3) := by decide +kernel
theorem dX9_keeps_61 : decode cX9_keeps 61 = .ok (.iload_n 1, 1) := by decide +kernel
theorem dX9_keeps_62 : decode cX9_keeps 62 = .ok (.imul, 1) := by decide +kernel
theorem dX9_keeps_63 : decode cX9_keeps 63 = .ok (.iload_n 2, 1) := by decide +kernel
theorem dX9_keeps_64 : decode cX9_keeps 64 = .ok (.iadd, 1) := by decide +kernel
theorem dX9_keeps_65 : decode cX9_keeps 65 = .ok (.aload_n 0, 1) := by decide +kernel
theorem dX9_keeps_66 : decode cX9_keeps 66 = .ok (.getfield 23, 3) := by decide +kernel
theorem dX9_keeps_69 : decode cX9_keeps 69 = .ok (.iload_n 2, 1) := by decide +kernel
theorem dX9_keeps_70 : decode cX9_keeps 70 = .ok (.iaload, 1) := by decide +kernel
theorem dX9_keeps_71 : decode cX9_keeps 71 = .ok (.iastore, 1) := by decide +kernel
theorem dX9_keeps_72 : decode cX9_keeps 72 = .ok (.iinc 2 1, 3) := by decide +kernel
theorem dX9_keeps_75 : decode cX9_keeps 75 = .ok (.goto (-28), 3) := by decide +kernel
theorem dX9_keeps_78 : decode cX9_keeps 78 = .ok (.aload_n 0, 1) := by decide +kernel
theorem dX9_keeps_79 : decode cX9_keeps 79 = .ok (.dup, 1) := by decide +kernel
theorem dX9_keeps_80 : decode cX9_keeps 80 = .ok (.getfield 45, 3) := by decide +kernel
theorem dX9_keeps_83 : decode cX9_keeps 83 = .ok (.iconst 1, 1) := by decide +kernel
theorem dX9_keeps_84 : decode cX9_keeps 84 = .ok (.iadd, 1) := by decide +kernel
theorem dX9_keeps_85 : decode cX9_keeps 85 = .ok (.putfield 45, 3) := by decide +kernel
theorem dX9_keeps_88 : decode cX9_keeps 88 = .ok (.return_, 1) := by decide +kernel
theorem dX9_remembers_0 : decode cX9_remembers 0 = .ok (.aload_n 0, 1) := by decide +kernel
theorem dX9_remembers_1 : decode cX9_remembers 1 = .ok (.invokevirtual 51, 3) := by decide +kernel
theorem dX9_remembers_4 : decode cX9_remembers 4 = .ok (.aload_n 0, 1) := by decide +kernel
theorem dX9_remembers_5 : decode cX9_remembers 5 = .ok (.invokevirtual 54, 3) := by decide +kernel
theorem dX9_remembers_8 : decode cX9_remembers 8 = .ok (.return_, 1) := by decide +kernel
theorem dX9_isSection_0 : decode cX9_isSection 0 = .ok (.iload_n 1, 1) := by decide +kernel
theorem dX9_isSection_1 : decode cX9_isSection 1 = .ok (.iconst 0, 1) := by decide +kernel
theorem dX9_isSection_2 : decode cX9_isSection 2 = .ok (.aload_n 0, 1) := by decide +kernel
theorem dX9_isSection_3 : decode cX9_isSection 3 = .ok (.getfield 13, 3) := by decide +kernel
theorem dX9_isSection_6 : decode cX9_isSection 6 = .ok (.iconst 0, 1) := by decide +kernel
theorem dX9_isSection_7 : decode cX9_isSection 7 = .ok (.iaload, 1) := by decide +kernel
theorem dX9_isSection_8 : decode cX9_isSection 8 = .ok (.iconst 1, 1) := by decide +kernel
theorem dX9_isSection_9 : decode cX9_isSection 9 = .ok (.isub, 1) := by decide +kernel
theorem dX9_isSection_10 : decode cX9_isSection 10 = .ok (.invokestatic 57, 3) := by decide +kernel
theorem dX9_isSection_13 : decode cX9_isSection 13 = .ok (.ireturn, 1) := by decide +kernel
theorem dX9_of_0 : decode cX9_of 0 = .ok (.aload_n 0, 1) := by decide +kernel
theorem dX9_of_1 : decode cX9_of 1 = .ok (.getfield 13, 3) := by decide +kernel
theorem dX9_of_4 : decode cX9_of 4 = .ok (.bipush 45, 2) := by decide +kernel
theorem dX9_of_6 : decode cX9_of 6 = .ok (.bipush 43, 2) := by decide +kernel
theorem dX9_of_8 : decode cX9_of 8 = .ok (.iload_n 1, 1) := by decide +kernel
theorem dX9_of_9 : decode cX9_of 9 = .ok (.imul, 1) := by decide +kernel
theorem dX9_of_10 : decode cX9_of 10 = .ok (.iadd, 1) := by decide +kernel
theorem dX9_of_11 : decode cX9_of 11 = .ok (.iload_n 2, 1) := by decide +kernel
theorem dX9_of_12 : decode cX9_of 12 = .ok (.iadd, 1) := by decide +kernel
theorem dX9_of_13 : decode cX9_of 13 = .ok (.iaload, 1) := by decide +kernel
theorem dX9_of_14 : decode cX9_of 14 = .ok (.ireturn, 1) := by decide +kernel
theorem dX9_puts_0 : decode cX9_puts 0 = .ok (.aload_n 0, 1) := by decide +kernel
theorem dX9_puts_1 : decode cX9_puts 1 = .ok (.getfield 13, 3) := by decide +kernel
theorem dX9_puts_4 : decode cX9_puts 4 = .ok (.bipush 45, 2) := by decide +kernel
theorem dX9_puts_6 : decode cX9_puts 6 = .ok (.bipush 43, 2) := by decide +kernel
theorem dX9_puts_8 : decode cX9_puts 8 = .ok (.iload_n 1, 1) := by decide +kernel
theorem dX9_puts_9 : decode cX9_puts 9 = .ok (.imul, 1) := by decide +kernel
theorem dX9_puts_10 : decode cX9_puts 10 = .ok (.iadd, 1) := by decide +kernel
theorem dX9_puts_11 : decode cX9_puts 11 = .ok (.iload_n 2, 1) := by decide +kernel
theorem dX9_puts_12 : decode cX9_puts 12 = .ok (.iadd, 1) := by decide +kernel
theorem dX9_puts_13 : decode cX9_puts 13 = .ok (.iload_n 3, 1) := by decide +kernel
theorem dX9_puts_14 : decode cX9_puts 14 = .ok (.iastore, 1) := by decide +kernel
theorem dX9_puts_15 : decode cX9_puts 15 = .ok (.return_, 1) := by decide +kernel
theorem dX9_noteAt_0 : decode cX9_noteAt 0 = .ok (.aload_n 0, 1) := by decide +kernel
theorem dX9_noteAt_1 : decode cX9_noteAt 1 = .ok (.iload_n 1, 1) := by decide +kernel
theorem dX9_noteAt_2 : decode cX9_noteAt 2 = .ok (.bipush 7, 2) := by decide +kernel
theorem dX9_noteAt_4 : decode cX9_noteAt 4 = .ok (.bipush 6, 2) := by decide +kernel
theorem dX9_noteAt_6 : decode cX9_noteAt 6 = .ok (.iload_n 2, 1) := by decide +kernel
theorem dX9_noteAt_7 : decode cX9_noteAt 7 = .ok (.imul, 1) := by decide +kernel
theorem dX9_noteAt_8 : decode cX9_noteAt 8 = .ok (.iadd, 1) := by decide +kernel
theorem dX9_noteAt_9 : decode cX9_noteAt 9 = .ok (.iload_n 3, 1) := by decide +kernel
theorem dX9_noteAt_10 : decode cX9_noteAt 10 = .ok (.iadd, 1) := by decide +kernel
theorem dX9_noteAt_11 : decode cX9_noteAt 11 = .ok (.invokevirtual 61, 3) := by decide +kernel
theorem dX9_noteAt_14 : decode cX9_noteAt 14 = .ok (.ireturn, 1) := by decide +kernel
theorem dX9_putsNote_0 : decode cX9_putsNote 0 = .ok (.aload_n 0, 1) := by decide +kernel
theorem dX9_putsNote_1 : decode cX9_putsNote 1 = .ok (.iload_n 1, 1) := by decide +kernel
theorem dX9_putsNote_2 : decode cX9_putsNote 2 = .ok (.bipush 7, 2) := by decide +kernel
theorem dX9_putsNote_4 : decode cX9_putsNote 4 = .ok (.bipush 6, 2) := by decide +kernel
theorem dX9_putsNote_6 : decode cX9_putsNote 6 = .ok (.iload_n 2, 1) := by decide +kernel
theorem dX9_putsNote_7 : decode cX9_putsNote 7 = .ok (.imul, 1) := by decide +kernel
theorem dX9_putsNote_8 : decode cX9_putsNote 8 = .ok (.iadd, 1) := by decide +kernel
theorem dX9_putsNote_9 : decode cX9_putsNote 9 = .ok (.iload_n 3, 1) := by decide +kernel
theorem dX9_putsNote_10 : decode cX9_putsNote 10 = .ok (.iadd, 1) := by decide +kernel
theorem dX9_putsNote_11 : decode cX9_putsNote 11 = .ok (.iload 4, 2) := by decide +kernel
theorem dX9_putsNote_13 : decode cX9_putsNote 13 = .ok (.invokevirtual 65, 3) := by decide +kernel
theorem dX9_putsNote_16 : decode cX9_putsNote 16 = .ok (.return_, 1) := by decide +kernel
theorem dX9_isCell_0 : decode cX9_isCell 0 = .ok (.aload_n 0, 1) := by decide +kernel
theorem dX9_isCell_1 : decode cX9_isCell 1 = .ok (.iload_n 1, 1) := by decide +kernel
theorem dX9_isCell_2 : decode cX9_isCell 2 = .ok (.invokevirtual 69, 3) := by decide +kernel
theorem dX9_isCell_5 : decode cX9_isCell 5 = .ok (.ifCond .eq 39, 3) := by decide +kernel
theorem dX9_isCell_8 : decode cX9_isCell 8 = .ok (.iload_n 2, 1) := by decide +kernel
theorem dX9_isCell_9 : decode cX9_isCell 9 = .ok (.iconst 0, 1) := by decide +kernel
theorem dX9_isCell_10 : decode cX9_isCell 10 = .ok (.aload_n 0, 1) := by decide +kernel
theorem dX9_isCell_11 : decode cX9_isCell 11 = .ok (.iload_n 1, 1) := by decide +kernel
theorem dX9_isCell_12 : decode cX9_isCell 12 = .ok (.iconst 1, 1) := by decide +kernel
theorem dX9_isCell_13 : decode cX9_isCell 13 = .ok (.invokevirtual 61, 3) := by decide +kernel
theorem dX9_isCell_16 : decode cX9_isCell 16 = .ok (.iconst 1, 1) := by decide +kernel
theorem dX9_isCell_17 : decode cX9_isCell 17 = .ok (.isub, 1) := by decide +kernel
theorem dX9_isCell_18 : decode cX9_isCell 18 = .ok (.invokestatic 57, 3) := by decide +kernel
theorem dX9_isCell_21 : decode cX9_isCell 21 = .ok (.ifCond .eq 23, 3) := by decide +kernel
theorem dX9_isCell_24 : decode cX9_isCell 24 = .ok (.iload_n 3, 1) := by decide +kernel
theorem dX9_isCell_25 : decode cX9_isCell 25 = .ok (.iconst 0, 1) := by decide +kernel
theorem dX9_isCell_26 : decode cX9_isCell 26 = .ok (.aload_n 0, 1) := by decide +kernel
theorem dX9_isCell_27 : decode cX9_isCell 27 = .ok (.iload_n 1, 1) := by decide +kernel
theorem dX9_isCell_28 : decode cX9_isCell 28 = .ok (.iconst 2, 1) := by decide +kernel
theorem dX9_isCell_29 : decode cX9_isCell 29 = .ok (.invokevirtual 61, 3) := by decide +kernel
theorem dX9_isCell_32 : decode cX9_isCell 32 = .ok (.iconst 1, 1) := by decide +kernel
theorem dX9_isCell_33 : decode cX9_isCell 33 = .ok (.isub, 1) := by decide +kernel
theorem dX9_isCell_34 : decode cX9_isCell 34 = .ok (.invokestatic 57, 3) := by decide +kernel
theorem dX9_isCell_37 : decode cX9_isCell 37 = .ok (.ifCond .eq 7, 3) := by decide +kernel
theorem dX9_isCell_40 : decode cX9_isCell 40 = .ok (.iconst 1, 1) := by decide +kernel
theorem dX9_isCell_41 : decode cX9_isCell 41 = .ok (.goto 4, 3) := by decide +kernel
theorem dX9_isCell_44 : decode cX9_isCell 44 = .ok (.iconst 0, 1) := by decide +kernel
theorem dX9_isCell_45 : decode cX9_isCell 45 = .ok (.ireturn, 1) := by decide +kernel
theorem dX9_isMaskedAt_0 : decode cX9_isMaskedAt 0 = .ok (.aload_n 0, 1) := by decide +kernel
theorem dX9_isMaskedAt_1 : decode cX9_isMaskedAt 1 = .ok (.iload_n 1, 1) := by decide +kernel
theorem dX9_isMaskedAt_2 : decode cX9_isMaskedAt 2 = .ok (.iconst 3, 1) := by decide +kernel
theorem dX9_isMaskedAt_3 : decode cX9_isMaskedAt 3 = .ok (.invokevirtual 61, 3) := by decide +kernel
theorem dX9_isMaskedAt_6 : decode cX9_isMaskedAt 6 = .ok (.iload_n 2, 1) := by decide +kernel
theorem dX9_isMaskedAt_7 : decode cX9_isMaskedAt 7 = .ok (.ishr, 1) := by decide +kernel
theorem dX9_isMaskedAt_8 : decode cX9_isMaskedAt 8 = .ok (.iconst 1, 1) := by decide +kernel
theorem dX9_isMaskedAt_9 : decode cX9_isMaskedAt 9 = .ok (.iand, 1) := by decide +kernel
theorem dX9_isMaskedAt_10 : decode cX9_isMaskedAt 10 = .ok (.iconst 1, 1) := by decide +kernel
theorem dX9_isMaskedAt_11 : decode cX9_isMaskedAt 11 = .ok (.if_icmp .ne 7, 3) := by decide +kernel
theorem dX9_isMaskedAt_14 : decode cX9_isMaskedAt 14 = .ok (.iconst 1, 1) := by decide +kernel
theorem dX9_isMaskedAt_15 : decode cX9_isMaskedAt 15 = .ok (.goto 4, 3) := by decide +kernel
theorem dX9_isMaskedAt_18 : decode cX9_isMaskedAt 18 = .ok (.iconst 0, 1) := by decide +kernel
theorem dX9_isMaskedAt_19 : decode cX9_isMaskedAt 19 = .ok (.ireturn, 1) := by decide +kernel
theorem dX9_kindOf_0 : decode cX9_kindOf 0 = .ok (.iload_n 0, 1) := by decide +kernel
theorem dX9_kindOf_1 : decode cX9_kindOf 1 = .ok (.bipush 115, 2) := by decide +kernel
theorem dX9_kindOf_3 : decode cX9_kindOf 3 = .ok (.if_icmp .ne 7, 3) := by decide +kernel
theorem dX9_kindOf_6 : decode cX9_kindOf 6 = .ok (.iconst 0, 1) := by decide +kernel
theorem dX9_kindOf_7 : decode cX9_kindOf 7 = .ok (.goto 24, 3) := by decide +kernel
theorem dX9_kindOf_10 : decode cX9_kindOf 10 = .ok (.iload_n 0, 1) := by decide +kernel
theorem dX9_kindOf_11 : decode cX9_kindOf 11 = .ok (.bipush 119, 2) := by decide +kernel
theorem dX9_kindOf_13 : decode cX9_kindOf 13 = .ok (.if_icmp .ne 7, 3) := by decide +kernel
theorem dX9_kindOf_16 : decode cX9_kindOf 16 = .ok (.iconst 1, 1) := by decide +kernel
theorem dX9_kindOf_17 : decode cX9_kindOf 17 = .ok (.goto 14, 3) := by decide +kernel
theorem dX9_kindOf_20 : decode cX9_kindOf 20 = .ok (.iload_n 0, 1) := by decide +kernel
theorem dX9_kindOf_21 : decode cX9_kindOf 21 = .ok (.bipush 100, 2) := by decide +kernel
theorem dX9_kindOf_23 : decode cX9_kindOf 23 = .ok (.if_icmp .ne 7, 3) := by decide +kernel
theorem dX9_kindOf_26 : decode cX9_kindOf 26 = .ok (.iconst 2, 1) := by decide +kernel
theorem dX9_kindOf_27 : decode cX9_kindOf 27 = .ok (.goto 4, 3) := by decide +kernel
theorem dX9_kindOf_30 : decode cX9_kindOf 30 = .ok (.iconst (-1), 1) := by decide +kernel
theorem dX9_kindOf_31 : decode cX9_kindOf 31 = .ok (.ireturn, 1) := by decide +kernel
theorem dX9_letterOf_0 : decode cX9_letterOf 0 = .ok (.iload_n 0, 1) := by decide +kernel
theorem dX9_letterOf_1 : decode cX9_letterOf 1 = .ok (.ifCond .ne 8, 3) := by decide +kernel
theorem dX9_letterOf_4 : decode cX9_letterOf 4 = .ok (.bipush 115, 2) := by decide +kernel
theorem dX9_letterOf_6 : decode cX9_letterOf 6 = .ok (.goto 15, 3) := by decide +kernel
theorem dX9_letterOf_9 : decode cX9_letterOf 9 = .ok (.iload_n 0, 1) := by decide +kernel
theorem dX9_letterOf_10 : decode cX9_letterOf 10 = .ok (.iconst 1, 1) := by decide +kernel
theorem dX9_letterOf_11 : decode cX9_letterOf 11 = .ok (.if_icmp .ne 8, 3) := by decide +kernel
theorem dX9_letterOf_14 : decode cX9_letterOf 14 = .ok (.bipush 119, 2) := by decide +kernel
theorem dX9_letterOf_16 : decode cX9_letterOf 16 = .ok (.goto 5, 3) := by decide +kernel
theorem dX9_letterOf_19 : decode cX9_letterOf 19 = .ok (.bipush 100, 2) := by decide +kernel
theorem dX9_letterOf_21 : decode cX9_letterOf 21 = .ok (.ireturn, 1) := by decide +kernel
theorem dX9_volumeOf_0 : decode cX9_volumeOf 0 = .ok (.iload_n 1, 1) := by decide +kernel
theorem dX9_volumeOf_1 : decode cX9_volumeOf 1 = .ok (.ifCond .eq 7, 3) := by decide +kernel
theorem dX9_volumeOf_4 : decode cX9_volumeOf 4 = .ok (.iload_n 0, 1) := by decide +kernel
theorem dX9_volumeOf_5 : decode cX9_volumeOf 5 = .ok (.ifCond .ne 5, 3) := by decide +kernel
theorem dX9_volumeOf_8 : decode cX9_volumeOf 8 = .ok (.iload_n 1, 1) := by decide +kernel
theorem dX9_volumeOf_9 : decode cX9_volumeOf 9 = .ok (.ireturn, 1) := by decide +kernel
theorem dX9_volumeOf_10 : decode cX9_volumeOf 10 = .ok (.iload_n 0, 1) := by decide +kernel
theorem dX9_volumeOf_11 : decode cX9_volumeOf 11 = .ok (.iconst 2, 1) := by decide +kernel
theorem dX9_volumeOf_12 : decode cX9_volumeOf 12 = .ok (.if_icmp .ne 16, 3) := by decide +kernel
theorem dX9_volumeOf_15 : decode cX9_volumeOf 15 = .ok (.iload_n 1, 1) := by decide +kernel
theorem dX9_volumeOf_16 : decode cX9_volumeOf 16 = .ok (.iconst 2, 1) := by decide +kernel
theorem dX9_volumeOf_17 : decode cX9_volumeOf 17 = .ok (.irem, 1) := by decide +kernel
theorem dX9_volumeOf_18 : decode cX9_volumeOf 18 = .ok (.iconst 1, 1) := by decide +kernel
theorem dX9_volumeOf_19 : decode cX9_volumeOf 19 = .ok (.if_icmp .ne 7, 3) := by decide +kernel
theorem dX9_volumeOf_22 : decode cX9_volumeOf 22 = .ok (.iconst 5, 1) := by decide +kernel
theorem dX9_volumeOf_23 : decode cX9_volumeOf 23 = .ok (.goto 4, 3) := by decide +kernel
theorem dX9_volumeOf_26 : decode cX9_volumeOf 26 = .ok (.iconst 1, 1) := by decide +kernel
theorem dX9_volumeOf_27 : decode cX9_volumeOf 27 = .ok (.ireturn, 1) := by decide +kernel
theorem dX9_volumeOf_28 : decode cX9_volumeOf 28 = .ok (.iload_n 1, 1) := by decide +kernel
theorem dX9_volumeOf_29 : decode cX9_volumeOf 29 = .ok (.bipush 6, 2) := by decide +kernel
theorem dX9_volumeOf_31 : decode cX9_volumeOf 31 = .ok (.if_icmp .le 8, 3) := by decide +kernel
theorem dX9_volumeOf_34 : decode cX9_volumeOf 34 = .ok (.bipush 12, 2) := by decide +kernel
theorem dX9_volumeOf_36 : decode cX9_volumeOf 36 = .ok (.goto 6, 3) := by decide +kernel
theorem dX9_volumeOf_39 : decode cX9_volumeOf 39 = .ok (.iconst 2, 1) := by decide +kernel
theorem dX9_volumeOf_40 : decode cX9_volumeOf 40 = .ok (.iload_n 1, 1) := by decide +kernel
theorem dX9_volumeOf_41 : decode cX9_volumeOf 41 = .ok (.imul, 1) := by decide +kernel
theorem dX9_volumeOf_42 : decode cX9_volumeOf 42 = .ok (.ireturn, 1) := by decide +kernel
theorem dX9_volumeOfColumn_0 : decode cX9_volumeOfColumn 0 = .ok (.iconst 0, 1) := by decide +kernel
theorem dX9_volumeOfColumn_1 : decode cX9_volumeOfColumn 1 = .ok (.istore_n 3, 1) := by decide +kernel
theorem dX9_volumeOfColumn_2 : decode cX9_volumeOfColumn 2 = .ok (.iconst 0, 1) := by decide +kernel
theorem dX9_volumeOfColumn_3 : decode cX9_volumeOfColumn 3 = .ok (.istore 4, 2) := by decide +kernel
theorem dX9_volumeOfColumn_5 : decode cX9_volumeOfColumn 5 = .ok (.iload 4, 2) := by decide +kernel
theorem dX9_volumeOfColumn_7 : decode cX9_volumeOfColumn 7 = .ok (.aload_n 0, 1) := by decide +kernel
theorem dX9_volumeOfColumn_8 : decode cX9_volumeOfColumn 8 = .ok (.iload_n 1, 1) := by decide +kernel
theorem dX9_volumeOfColumn_9 : decode cX9_volumeOfColumn 9 = .ok (.iconst 1, 1) := by decide +kernel
theorem dX9_volumeOfColumn_10 : decode cX9_volumeOfColumn 10 = .ok (.invokevirtual 61, 3) := by decide +kernel
theorem dX9_volumeOfColumn_13 : decode cX9_volumeOfColumn 13 = .ok (.if_icmp .ge 29, 3) := by decide +kernel
theorem dX9_volumeOfColumn_16 : decode cX9_volumeOfColumn 16 = .ok (.iload_n 3, 1) := by decide +kernel
theorem dX9_volumeOfColumn_17 : decode cX9_volumeOfColumn 17 = .ok (.aload_n 0, 1) := by decide +kernel
theorem dX9_volumeOfColumn_18 : decode cX9_volumeOfColumn 18 = .ok (.iload_n 1, 1) := by decide +kernel
theorem dX9_volumeOfColumn_19 : decode cX9_volumeOfColumn 19 = .ok (.iconst 0, 1) := by decide +kernel
theorem dX9_volumeOfColumn_20 : decode cX9_volumeOfColumn 20 = .ok (.invokevirtual 61, 3) := by decide +kernel
theorem dX9_volumeOfColumn_23 : decode cX9_volumeOfColumn 23 = .ok (.aload_n 0, 1) := by decide +kernel
theorem dX9_volumeOfColumn_24 : decode cX9_volumeOfColumn 24 = .ok (.iload_n 1, 1) := by decide +kernel
theorem dX9_volumeOfColumn_25 : decode cX9_volumeOfColumn 25 = .ok (.iload 4, 2) := by decide +kernel
theorem dX9_volumeOfColumn_27 : decode cX9_volumeOfColumn 27 = .ok (.iload_n 2, 1) := by decide +kernel
theorem dX9_volumeOfColumn_28 : decode cX9_volumeOfColumn 28 = .ok (.invokevirtual 73, 3) := by decide +kernel
theorem dX9_volumeOfColumn_31 : decode cX9_volumeOfColumn 31 = .ok (.invokestatic 77, 3) := by decide +kernel
theorem dX9_volumeOfColumn_34 : decode cX9_volumeOfColumn 34 = .ok (.iadd, 1) := by decide +kernel
theorem dX9_volumeOfColumn_35 : decode cX9_volumeOfColumn 35 = .ok (.istore_n 3, 1) := by decide +kernel
theorem dX9_volumeOfColumn_36 : decode cX9_volumeOfColumn 36 = .ok (.iinc 4 1, 3) := by decide +kernel
theorem dX9_volumeOfColumn_39 : decode cX9_volumeOfColumn 39 = .ok (.goto (-34), 3) := by decide +kernel
theorem dX9_volumeOfColumn_42 : decode cX9_volumeOfColumn 42 = .ok (.iload_n 3, 1) := by decide +kernel
theorem dX9_volumeOfColumn_43 : decode cX9_volumeOfColumn 43 = .ok (.ireturn, 1) := by decide +kernel
theorem dX9_notAdd_0 : decode cX9_notAdd 0 = .ok (.iload_n 1, 1) := by decide +kernel
theorem dX9_notAdd_1 : decode cX9_notAdd 1 = .ok (.invokestatic 80, 3) := by decide +kernel
theorem dX9_notAdd_4 : decode cX9_notAdd 4 = .ok (.ifCond .lt 23, 3) := by decide +kernel
theorem dX9_notAdd_7 : decode cX9_notAdd 7 = .ok (.iload_n 2, 1) := by decide +kernel
theorem dX9_notAdd_8 : decode cX9_notAdd 8 = .ok (.iconst 1, 1) := by decide +kernel
theorem dX9_notAdd_9 : decode cX9_notAdd 9 = .ok (.bipush 6, 2) := by decide +kernel
theorem dX9_notAdd_11 : decode cX9_notAdd 11 = .ok (.invokestatic 57, 3) := by decide +kernel
theorem dX9_notAdd_14 : decode cX9_notAdd 14 = .ok (.ifCond .eq 13, 3) := by decide +kernel
theorem dX9_notAdd_17 : decode cX9_notAdd 17 = .ok (.iload_n 3, 1) := by decide +kernel
theorem dX9_notAdd_18 : decode cX9_notAdd 18 = .ok (.iconst 1, 1) := by decide +kernel
theorem dX9_notAdd_19 : decode cX9_notAdd 19 = .ok (.bipush 6, 2) := by decide +kernel
theorem dX9_notAdd_21 : decode cX9_notAdd 21 = .ok (.invokestatic 57, 3) := by decide +kernel
theorem dX9_notAdd_24 : decode cX9_notAdd 24 = .ok (.ifCond .ne 5, 3) := by decide +kernel
theorem dX9_notAdd_27 : decode cX9_notAdd 27 = .ok (.iconst 1, 1) := by decide +kernel
theorem dX9_notAdd_28 : decode cX9_notAdd 28 = .ok (.ireturn, 1) := by decide +kernel
theorem dX9_notAdd_29 : decode cX9_notAdd 29 = .ok (.aload_n 0, 1) := by decide +kernel
theorem dX9_notAdd_30 : decode cX9_notAdd 30 = .ok (.getfield 13, 3) := by decide +kernel
theorem dX9_notAdd_33 : decode cX9_notAdd 33 = .ok (.iconst 0, 1) := by decide +kernel
theorem dX9_notAdd_34 : decode cX9_notAdd 34 = .ok (.iaload, 1) := by decide +kernel
theorem dX9_notAdd_35 : decode cX9_notAdd 35 = .ok (.iconst 5, 1) := by decide +kernel
theorem dX9_notAdd_36 : decode cX9_notAdd 36 = .ok (.if_icmp .ne 7, 3) := by decide +kernel
theorem dX9_notAdd_39 : decode cX9_notAdd 39 = .ok (.iconst 2, 1) := by decide +kernel
theorem dX9_notAdd_40 : decode cX9_notAdd 40 = .ok (.goto 4, 3) := by decide +kernel
theorem dX9_notAdd_43 : decode cX9_notAdd 43 = .ok (.iconst 0, 1) := by decide +kernel
theorem dX9_notAdd_44 : decode cX9_notAdd 44 = .ok (.ireturn, 1) := by decide +kernel
theorem dX9_addsSection_0 : decode cX9_addsSection 0 = .ok (.aload_n 0, 1) := by decide +kernel
theorem dX9_addsSection_1 : decode cX9_addsSection 1 = .ok (.getfield 13, 3) := by decide +kernel
theorem dX9_addsSection_4 : decode cX9_addsSection 4 = .ok (.iconst 0, 1) := by decide +kernel
theorem dX9_addsSection_5 : decode cX9_addsSection 5 = .ok (.iaload, 1) := by decide +kernel
theorem dX9_addsSection_6 : decode cX9_addsSection 6 = .ok (.istore 4, 2) := by decide +kernel
theorem dX9_addsSection_8 : decode cX9_addsSection 8 = .ok (.aload_n 0, 1) := by decide +kernel
theorem dX9_addsSection_9 : decode cX9_addsSection 9 = .ok (.getfield 13, 3) := by decide +kernel
theorem dX9_addsSection_12 : decode cX9_addsSection 12 = .ok (.iconst 0, 1) := by decide +kernel
theorem dX9_addsSection_13 : decode cX9_addsSection 13 = .ok (.dup2, 1) := by decide +kernel
theorem dX9_addsSection_14 : decode cX9_addsSection 14 = .ok (.iaload, 1) := by decide +kernel
theorem dX9_addsSection_15 : decode cX9_addsSection 15 = .ok (.iconst 1, 1) := by decide +kernel
theorem dX9_addsSection_16 : decode cX9_addsSection 16 = .ok (.iadd, 1) := by decide +kernel
theorem dX9_addsSection_17 : decode cX9_addsSection 17 = .ok (.iastore, 1) := by decide +kernel
theorem dX9_addsSection_18 : decode cX9_addsSection 18 = .ok (.iconst 0, 1) := by decide +kernel
theorem dX9_addsSection_19 : decode cX9_addsSection 19 = .ok (.istore 5, 2) := by decide +kernel
theorem dX9_addsSection_21 : decode cX9_addsSection 21 = .ok (.iload 5, 2) := by decide +kernel
theorem dX9_addsSection_23 : decode cX9_addsSection 23 = .ok (.bipush 43, 2) := by decide +kernel
theorem dX9_addsSection_25 : decode cX9_addsSection 25 = .ok (.if_icmp .ge 18, 3) := by decide +kernel
theorem dX9_addsSection_28 : decode cX9_addsSection 28 = .ok (.aload_n 0, 1) := by decide +kernel
theorem dX9_addsSection_29 : decode cX9_addsSection 29 = .ok (.iload 4, 2) := by decide +kernel
theorem dX9_addsSection_31 : decode cX9_addsSection 31 = .ok (.iload 5, 2) := by decide +kernel
theorem dX9_addsSection_33 : decode cX9_addsSection 33 = .ok (.iconst 0, 1) := by decide +kernel
theorem dX9_addsSection_34 : decode cX9_addsSection 34 = .ok (.invokevirtual 65, 3) := by decide +kernel
theorem dX9_addsSection_37 : decode cX9_addsSection 37 = .ok (.iinc 5 1, 3) := by decide +kernel
theorem dX9_addsSection_40 : decode cX9_addsSection 40 = .ok (.goto (-19), 3) := by decide +kernel
theorem dX9_addsSection_43 : decode cX9_addsSection 43 = .ok (.aload_n 0, 1) := by decide +kernel
theorem dX9_addsSection_44 : decode cX9_addsSection 44 = .ok (.iload 4, 2) := by decide +kernel
theorem dX9_addsSection_46 : decode cX9_addsSection 46 = .ok (.iconst 0, 1) := by decide +kernel
theorem dX9_addsSection_47 : decode cX9_addsSection 47 = .ok (.iload_n 1, 1) := by decide +kernel
theorem dX9_addsSection_48 : decode cX9_addsSection 48 = .ok (.invokestatic 80, 3) := by decide +kernel
theorem dX9_addsSection_51 : decode cX9_addsSection 51 = .ok (.invokevirtual 65, 3) := by decide +kernel
theorem dX9_addsSection_54 : decode cX9_addsSection 54 = .ok (.aload_n 0, 1) := by decide +kernel
theorem dX9_addsSection_55 : decode cX9_addsSection 55 = .ok (.iload 4, 2) := by decide +kernel
theorem dX9_addsSection_57 : decode cX9_addsSection 57 = .ok (.iconst 1, 1) := by decide +kernel
theorem dX9_addsSection_58 : decode cX9_addsSection 58 = .ok (.iload_n 2, 1) := by decide +kernel
theorem dX9_addsSection_59 : decode cX9_addsSection 59 = .ok (.invokevirtual 65, 3) := by decide +kernel
theorem dX9_addsSection_62 : decode cX9_addsSection 62 = .ok (.aload_n 0, 1) := by decide +kernel
theorem dX9_addsSection_63 : decode cX9_addsSection 63 = .ok (.iload 4, 2) := by decide +kernel
theorem dX9_addsSection_65 : decode cX9_addsSection 65 = .ok (.iconst 2, 1) := by decide +kernel
theorem dX9_addsSection_66 : decode cX9_addsSection 66 = .ok (.iload_n 3, 1) := by decide +kernel
theorem dX9_addsSection_67 : decode cX9_addsSection 67 = .ok (.invokevirtual 65, 3) := by decide +kernel
theorem dX9_addsSection_70 : decode cX9_addsSection 70 = .ok (.iload 4, 2) := by decide +kernel
theorem dX9_addsSection_72 : decode cX9_addsSection 72 = .ok (.ireturn, 1) := by decide +kernel
theorem dX9_addSection_0 : decode cX9_addSection 0 = .ok (.aload_n 0, 1) := by decide +kernel
theorem dX9_addSection_1 : decode cX9_addSection 1 = .ok (.iconst 0, 1) := by decide +kernel
theorem dX9_addSection_2 : decode cX9_addSection 2 = .ok (.putfield 1, 3) := by decide +kernel
theorem dX9_addSection_5 : decode cX9_addSection 5 = .ok (.aload_n 0, 1) := by decide +kernel
theorem dX9_addSection_6 : decode cX9_addSection 6 = .ok (.iload_n 1, 1) := by decide +kernel
theorem dX9_addSection_7 : decode cX9_addSection 7 = .ok (.iload_n 2, 1) := by decide +kernel
theorem dX9_addSection_8 : decode cX9_addSection 8 = .ok (.iload_n 3, 1) := by decide +kernel
theorem dX9_addSection_9 : decode cX9_addSection 9 = .ok (.invokevirtual 84, 3) := by decide +kernel
theorem dX9_addSection_12 : decode cX9_addSection 12 = .ok (.istore 4, 2) := by decide +kernel
theorem dX9_addSection_14 : decode cX9_addSection 14 = .ok (.iload 4, 2) := by decide +kernel
theorem dX9_addSection_16 : decode cX9_addSection 16 = .ok (.ifCond .eq 10, 3) := by decide +kernel
theorem dX9_addSection_19 : decode cX9_addSection 19 = .ok (.aload_n 0, 1) := by decide +kernel
theorem dX9_addSection_20 : decode cX9_addSection 20 = .ok (.iload 4, 2) := by decide +kernel
theorem dX9_addSection_22 : decode cX9_addSection 22 = .ok (.invokevirtual 87, 3) := by decide +kernel
theorem dX9_addSection_25 : decode cX9_addSection 25 = .ok (.ireturn, 1) := by decide +kernel
theorem dX9_addSection_26 : decode cX9_addSection 26 = .ok (.aload_n 0, 1) := by decide +kernel
theorem dX9_addSection_27 : decode cX9_addSection 27 = .ok (.invokevirtual 90, 3) := by decide +kernel
theorem dX9_addSection_30 : decode cX9_addSection 30 = .ok (.aload_n 0, 1) := by decide +kernel
theorem dX9_addSection_31 : decode cX9_addSection 31 = .ok (.iload_n 1, 1) := by decide +kernel
theorem dX9_addSection_32 : decode cX9_addSection 32 = .ok (.iload_n 2, 1) := by decide +kernel
theorem dX9_addSection_33 : decode cX9_addSection 33 = .ok (.iload_n 3, 1) := by decide +kernel
theorem dX9_addSection_34 : decode cX9_addSection 34 = .ok (.invokevirtual 93, 3) := by decide +kernel
theorem dX9_addSection_37 : decode cX9_addSection 37 = .ok (.ireturn, 1) := by decide +kernel
theorem dX9_notSection_0 : decode cX9_notSection 0 = .ok (.aload_n 0, 1) := by decide +kernel
theorem dX9_notSection_1 : decode cX9_notSection 1 = .ok (.iload_n 1, 1) := by decide +kernel
theorem dX9_notSection_2 : decode cX9_notSection 2 = .ok (.invokevirtual 69, 3) := by decide +kernel
theorem dX9_notSection_5 : decode cX9_notSection 5 = .ok (.ifCond .eq 7, 3) := by decide +kernel
theorem dX9_notSection_8 : decode cX9_notSection 8 = .ok (.iconst 0, 1) := by decide +kernel
theorem dX9_notSection_9 : decode cX9_notSection 9 = .ok (.goto 4, 3) := by decide +kernel
theorem dX9_notSection_12 : decode cX9_notSection 12 = .ok (.iconst 1, 1) := by decide +kernel
theorem dX9_notSection_13 : decode cX9_notSection 13 = .ok (.ireturn, 1) := by decide +kernel
theorem dX9_removesSection_0 : decode cX9_removesSection 0 = .ok (.aload_n 0, 1) := by decide +kernel
theorem dX9_removesSection_1 : decode cX9_removesSection 1 = .ok (.getfield 13, 3) := by decide +kernel
theorem dX9_removesSection_4 : decode cX9_removesSection 4 = .ok (.iconst 0, 1) := by decide +kernel
theorem dX9_removesSection_5 : decode cX9_removesSection 5 = .ok (.dup2, 1) := by decide +kernel
theorem dX9_removesSection_6 : decode cX9_removesSection 6 = .ok (.iaload, 1) := by decide +kernel
theorem dX9_removesSection_7 : decode cX9_removesSection 7 = .ok (.iconst 1, 1) := by decide +kernel
theorem dX9_removesSection_8 : decode cX9_removesSection 8 = .ok (.isub, 1) := by decide +kernel
theorem dX9_removesSection_9 : decode cX9_removesSection 9 = .ok (.iastore, 1) := by decide +kernel
theorem dX9_removesSection_10 : decode cX9_removesSection 10 = .ok (.bipush 45, 2) := by decide +kernel
theorem dX9_removesSection_12 : decode cX9_removesSection 12 = .ok (.bipush 43, 2) := by decide +kernel
theorem dX9_removesSection_14 : decode cX9_removesSection 14 = .ok (.aload_n 0, 1) := by decide +kernel
theorem dX9_removesSection_15 : decode cX9_removesSection 15 = .ok (.getfield 13, 3) := by decide +kernel
theorem dX9_removesSection_18 : decode cX9_removesSection 18 = .ok (.iconst 0, 1) := by decide +kernel
theorem dX9_removesSection_19 : decode cX9_removesSection 19 = .ok (.iaload, 1) := by decide +kernel
theorem dX9_removesSection_20 : decode cX9_removesSection 20 = .ok (.imul, 1) := by decide +kernel
theorem dX9_removesSection_21 : decode cX9_removesSection 21 = .ok (.iadd, 1) := by decide +kernel
theorem dX9_removesSection_22 : decode cX9_removesSection 22 = .ok (.istore_n 2, 1) := by decide +kernel
theorem dX9_removesSection_23 : decode cX9_removesSection 23 = .ok (.bipush 45, 2) := by decide +kernel
theorem dX9_removesSection_25 : decode cX9_removesSection 25 = .ok (.bipush 43, 2) := by decide +kernel
theorem dX9_removesSection_27 : decode cX9_removesSection 27 = .ok (.iload_n 1, 1) := by decide +kernel
theorem dX9_removesSection_28 : decode cX9_removesSection 28 = .ok (.imul, 1) := by decide +kernel
theorem dX9_removesSection_29 : decode cX9_removesSection 29 = .ok (.iadd, 1) := by decide +kernel
theorem dX9_removesSection_30 : decode cX9_removesSection 30 = .ok (.istore_n 3, 1) := by decide +kernel
theorem dX9_removesSection_31 : decode cX9_removesSection 31 = .ok (.iload_n 3, 1) := by decide +kernel
theorem dX9_removesSection_32 : decode cX9_removesSection 32 = .ok (.iload_n 2, 1) := by decide +kernel
theorem dX9_removesSection_33 : decode cX9_removesSection 33 = .ok (.if_icmp .ge 24, 3) := by decide +kernel
theorem dX9_removesSection_36 : decode cX9_removesSection 36 = .ok (.aload_n 0, 1) := by decide +kernel
theorem dX9_removesSection_37 : decode cX9_removesSection 37 = .ok (.getfield 13, 3) := by decide +kernel
theorem dX9_removesSection_40 : decode cX9_removesSection 40 = .ok (.iload_n 3, 1) := by decide +kernel
theorem dX9_removesSection_41 : decode cX9_removesSection 41 = .ok (.aload_n 0, 1) := by decide +kernel
theorem dX9_removesSection_42 : decode cX9_removesSection 42 = .ok (.getfield 13, 3) := by decide +kernel
theorem dX9_removesSection_45 : decode cX9_removesSection 45 = .ok (.iload_n 3, 1) := by decide +kernel
theorem dX9_removesSection_46 : decode cX9_removesSection 46 = .ok (.bipush 43, 2) := by decide +kernel
theorem dX9_removesSection_48 : decode cX9_removesSection 48 = .ok (.iadd, 1) := by decide +kernel
theorem dX9_removesSection_49 : decode cX9_removesSection 49 = .ok (.iaload, 1) := by decide +kernel
theorem dX9_removesSection_50 : decode cX9_removesSection 50 = .ok (.iastore, 1) := by decide +kernel
theorem dX9_removesSection_51 : decode cX9_removesSection 51 = .ok (.iinc 3 1, 3) := by decide +kernel
theorem dX9_removesSection_54 : decode cX9_removesSection 54 = .ok (.goto (-23), 3) := by decide +kernel
theorem dX9_removesSection_57 : decode cX9_removesSection 57 = .ok (.iconst 0, 1) := by decide +kernel
theorem dX9_removesSection_58 : decode cX9_removesSection 58 = .ok (.istore_n 3, 1) := by decide +kernel
theorem dX9_removesSection_59 : decode cX9_removesSection 59 = .ok (.iload_n 3, 1) := by decide +kernel
theorem dX9_removesSection_60 : decode cX9_removesSection 60 = .ok (.bipush 43, 2) := by decide +kernel
theorem dX9_removesSection_62 : decode cX9_removesSection 62 = .ok (.if_icmp .ge 18, 3) := by decide +kernel
theorem dX9_removesSection_65 : decode cX9_removesSection 65 = .ok (.aload_n 0, 1) := by decide +kernel
theorem dX9_removesSection_66 : decode cX9_removesSection 66 = .ok (.getfield 13, 3) := by decide +kernel
theorem dX9_removesSection_69 : decode cX9_removesSection 69 = .ok (.iload_n 2, 1) := by decide +kernel
theorem dX9_removesSection_70 : decode cX9_removesSection 70 = .ok (.iload_n 3, 1) := by decide +kernel
theorem dX9_removesSection_71 : decode cX9_removesSection 71 = .ok (.iadd, 1) := by decide +kernel
theorem dX9_removesSection_72 : decode cX9_removesSection 72 = .ok (.iconst 0, 1) := by decide +kernel
theorem dX9_removesSection_73 : decode cX9_removesSection 73 = .ok (.iastore, 1) := by decide +kernel
theorem dX9_removesSection_74 : decode cX9_removesSection 74 = .ok (.iinc 3 1, 3) := by decide +kernel
theorem dX9_removesSection_77 : decode cX9_removesSection 77 = .ok (.goto (-18), 3) := by decide +kernel
theorem dX9_removesSection_80 : decode cX9_removesSection 80 = .ok (.aload_n 0, 1) := by decide +kernel
theorem dX9_removesSection_81 : decode cX9_removesSection 81 = .ok (.getfield 13, 3) := by decide +kernel
theorem dX9_removesSection_84 : decode cX9_removesSection 84 = .ok (.iconst 0, 1) := by decide +kernel
theorem dX9_removesSection_85 : decode cX9_removesSection 85 = .ok (.iaload, 1) := by decide +kernel
theorem dX9_removesSection_86 : decode cX9_removesSection 86 = .ok (.ireturn, 1) := by decide +kernel
theorem dX9_removeSection_0 : decode cX9_removeSection 0 = .ok (.aload_n 0, 1) := by decide +kernel
theorem dX9_removeSection_1 : decode cX9_removeSection 1 = .ok (.iconst 0, 1) := by decide +kernel
theorem dX9_removeSection_2 : decode cX9_removeSection 2 = .ok (.putfield 1, 3) := by decide +kernel
theorem dX9_removeSection_5 : decode cX9_removeSection 5 = .ok (.aload_n 0, 1) := by decide +kernel
theorem dX9_removeSection_6 : decode cX9_removeSection 6 = .ok (.iload_n 1, 1) := by decide +kernel
theorem dX9_removeSection_7 : decode cX9_removeSection 7 = .ok (.invokevirtual 69, 3) := by decide +kernel
theorem dX9_removeSection_10 : decode cX9_removeSection 10 = .ok (.ifCond .ne 9, 3) := by decide +kernel
theorem dX9_removeSection_13 : decode cX9_removeSection 13 = .ok (.aload_n 0, 1) := by decide +kernel
theorem dX9_removeSection_14 : decode cX9_removeSection 14 = .ok (.iconst 1, 1) := by decide +kernel
theorem dX9_removeSection_15 : decode cX9_removeSection 15 = .ok (.invokevirtual 87, 3) := by decide +kernel
theorem dX9_removeSection_18 : decode cX9_removeSection 18 = .ok (.ireturn, 1) := by decide +kernel
theorem dX9_removeSection_19 : decode cX9_removeSection 19 = .ok (.aload_n 0, 1) := by decide +kernel
theorem dX9_removeSection_20 : decode cX9_removeSection 20 = .ok (.invokevirtual 90, 3) := by decide +kernel
theorem dX9_removeSection_23 : decode cX9_removeSection 23 = .ok (.aload_n 0, 1) := by decide +kernel
theorem dX9_removeSection_24 : decode cX9_removeSection 24 = .ok (.iload_n 1, 1) := by decide +kernel
theorem dX9_removeSection_25 : decode cX9_removeSection 25 = .ok (.invokevirtual 96, 3) := by decide +kernel
theorem dX9_removeSection_28 : decode cX9_removeSection 28 = .ok (.ireturn, 1) := by decide +kernel
theorem dX9_notNote_0 : decode cX9_notNote 0 = .ok (.aload_n 0, 1) := by decide +kernel
theorem dX9_notNote_1 : decode cX9_notNote 1 = .ok (.iload_n 1, 1) := by decide +kernel
theorem dX9_notNote_2 : decode cX9_notNote 2 = .ok (.iload_n 2, 1) := by decide +kernel
theorem dX9_notNote_3 : decode cX9_notNote 3 = .ok (.iload_n 3, 1) := by decide +kernel
theorem dX9_notNote_4 : decode cX9_notNote 4 = .ok (.invokevirtual 99, 3) := by decide +kernel
theorem dX9_notNote_7 : decode cX9_notNote 7 = .ok (.ifCond .ne 5, 3) := by decide +kernel
theorem dX9_notNote_10 : decode cX9_notNote 10 = .ok (.iconst 1, 1) := by decide +kernel
theorem dX9_notNote_11 : decode cX9_notNote 11 = .ok (.ireturn, 1) := by decide +kernel
theorem dX9_notNote_12 : decode cX9_notNote 12 = .ok (.iload 4, 2) := by decide +kernel
theorem dX9_notNote_14 : decode cX9_notNote 14 = .ok (.iconst 0, 1) := by decide +kernel
theorem dX9_notNote_15 : decode cX9_notNote 15 = .ok (.bipush 9, 2) := by decide +kernel
theorem dX9_notNote_17 : decode cX9_notNote 17 = .ok (.invokestatic 57, 3) := by decide +kernel
theorem dX9_notNote_20 : decode cX9_notNote 20 = .ok (.ifCond .eq 7, 3) := by decide +kernel
theorem dX9_notNote_23 : decode cX9_notNote 23 = .ok (.iconst 0, 1) := by decide +kernel
theorem dX9_notNote_24 : decode cX9_notNote 24 = .ok (.goto 4, 3) := by decide +kernel
theorem dX9_notNote_27 : decode cX9_notNote 27 = .ok (.iconst 2, 1) := by decide +kernel
theorem dX9_notNote_28 : decode cX9_notNote 28 = .ok (.ireturn, 1) := by decide +kernel
theorem dX9_setsNote_0 : decode cX9_setsNote 0 = .ok (.aload_n 0, 1) := by decide +kernel
theorem dX9_setsNote_1 : decode cX9_setsNote 1 = .ok (.iload_n 1, 1) := by decide +kernel
theorem dX9_setsNote_2 : decode cX9_setsNote 2 = .ok (.iload_n 2, 1) := by decide +kernel
theorem dX9_setsNote_3 : decode cX9_setsNote 3 = .ok (.iload_n 3, 1) := by decide +kernel
theorem dX9_setsNote_4 : decode cX9_setsNote 4 = .ok (.invokevirtual 73, 3) := by decide +kernel
theorem dX9_setsNote_7 : decode cX9_setsNote 7 = .ok (.istore 5, 2) := by decide +kernel
theorem dX9_setsNote_9 : decode cX9_setsNote 9 = .ok (.aload_n 0, 1) := by decide +kernel
theorem dX9_setsNote_10 : decode cX9_setsNote 10 = .ok (.iload_n 1, 1) := by decide +kernel
theorem dX9_setsNote_11 : decode cX9_setsNote 11 = .ok (.iload_n 2, 1) := by decide +kernel
theorem dX9_setsNote_12 : decode cX9_setsNote 12 = .ok (.iload_n 3, 1) := by decide +kernel
theorem dX9_setsNote_13 : decode cX9_setsNote 13 = .ok (.iload 4, 2) := by decide +kernel
theorem dX9_setsNote_15 : decode cX9_setsNote 15 = .ok (.invokevirtual 102, 3) := by decide +kernel
theorem dX9_setsNote_18 : decode cX9_setsNote 18 = .ok (.iload 5, 2) := by decide +kernel
theorem dX9_setsNote_20 : decode cX9_setsNote 20 = .ok (.ireturn, 1) := by decide +kernel
theorem dX9_setNote_0 : decode cX9_setNote 0 = .ok (.aload_n 0, 1) := by decide +kernel
theorem dX9_setNote_1 : decode cX9_setNote 1 = .ok (.iconst 0, 1) := by decide +kernel
theorem dX9_setNote_2 : decode cX9_setNote 2 = .ok (.putfield 1, 3) := by decide +kernel
theorem dX9_setNote_5 : decode cX9_setNote 5 = .ok (.aload_n 0, 1) := by decide +kernel
theorem dX9_setNote_6 : decode cX9_setNote 6 = .ok (.iload_n 1, 1) := by decide +kernel
theorem dX9_setNote_7 : decode cX9_setNote 7 = .ok (.iload_n 2, 1) := by decide +kernel
theorem dX9_setNote_8 : decode cX9_setNote 8 = .ok (.iload_n 3, 1) := by decide +kernel
theorem dX9_setNote_9 : decode cX9_setNote 9 = .ok (.iload 4, 2) := by decide +kernel
theorem dX9_setNote_11 : decode cX9_setNote 11 = .ok (.invokevirtual 106, 3) := by decide +kernel
theorem dX9_setNote_14 : decode cX9_setNote 14 = .ok (.istore 5, 2) := by decide +kernel
theorem dX9_setNote_16 : decode cX9_setNote 16 = .ok (.iload 5, 2) := by decide +kernel
theorem dX9_setNote_18 : decode cX9_setNote 18 = .ok (.ifCond .eq 10, 3) := by decide +kernel
theorem dX9_setNote_21 : decode cX9_setNote 21 = .ok (.aload_n 0, 1) := by decide +kernel
theorem dX9_setNote_22 : decode cX9_setNote 22 = .ok (.iload 5, 2) := by decide +kernel
theorem dX9_setNote_24 : decode cX9_setNote 24 = .ok (.invokevirtual 87, 3) := by decide +kernel
theorem dX9_setNote_27 : decode cX9_setNote 27 = .ok (.ireturn, 1) := by decide +kernel
theorem dX9_setNote_28 : decode cX9_setNote 28 = .ok (.aload_n 0, 1) := by decide +kernel
theorem dX9_setNote_29 : decode cX9_setNote 29 = .ok (.invokevirtual 90, 3) := by decide +kernel
theorem dX9_setNote_32 : decode cX9_setNote 32 = .ok (.aload_n 0, 1) := by decide +kernel
theorem dX9_setNote_33 : decode cX9_setNote 33 = .ok (.iload_n 1, 1) := by decide +kernel
theorem dX9_setNote_34 : decode cX9_setNote 34 = .ok (.iload_n 2, 1) := by decide +kernel
theorem dX9_setNote_35 : decode cX9_setNote 35 = .ok (.iload_n 3, 1) := by decide +kernel
theorem dX9_setNote_36 : decode cX9_setNote 36 = .ok (.iload 4, 2) := by decide +kernel
theorem dX9_setNote_38 : decode cX9_setNote 38 = .ok (.invokevirtual 110, 3) := by decide +kernel
theorem dX9_setNote_41 : decode cX9_setNote 41 = .ok (.ireturn, 1) := by decide +kernel
theorem dX9_notMask_0 : decode cX9_notMask 0 = .ok (.aload_n 0, 1) := by decide +kernel
theorem dX9_notMask_1 : decode cX9_notMask 1 = .ok (.iload_n 1, 1) := by decide +kernel
theorem dX9_notMask_2 : decode cX9_notMask 2 = .ok (.invokevirtual 69, 3) := by decide +kernel
theorem dX9_notMask_5 : decode cX9_notMask 5 = .ok (.ifCond .ne 5, 3) := by decide +kernel
theorem dX9_notMask_8 : decode cX9_notMask 8 = .ok (.iconst 1, 1) := by decide +kernel
theorem dX9_notMask_9 : decode cX9_notMask 9 = .ok (.ireturn, 1) := by decide +kernel
theorem dX9_notMask_10 : decode cX9_notMask 10 = .ok (.iload_n 2, 1) := by decide +kernel
theorem dX9_notMask_11 : decode cX9_notMask 11 = .ok (.iconst 0, 1) := by decide +kernel
theorem dX9_notMask_12 : decode cX9_notMask 12 = .ok (.iconst 5, 1) := by decide +kernel
theorem dX9_notMask_13 : decode cX9_notMask 13 = .ok (.invokestatic 57, 3) := by decide +kernel
theorem dX9_notMask_16 : decode cX9_notMask 16 = .ok (.ifCond .eq 7, 3) := by decide +kernel
theorem dX9_notMask_19 : decode cX9_notMask 19 = .ok (.iconst 0, 1) := by decide +kernel
theorem dX9_notMask_20 : decode cX9_notMask 20 = .ok (.goto 4, 3) := by decide +kernel
theorem dX9_notMask_23 : decode cX9_notMask 23 = .ok (.iconst 2, 1) := by decide +kernel
theorem dX9_notMask_24 : decode cX9_notMask 24 = .ok (.ireturn, 1) := by decide +kernel
theorem dX9_setsMasked_0 : decode cX9_setsMasked 0 = .ok (.aload_n 0, 1) := by decide +kernel
theorem dX9_setsMasked_1 : decode cX9_setsMasked 1 = .ok (.iload_n 1, 1) := by decide +kernel
theorem dX9_setsMasked_2 : decode cX9_setsMasked 2 = .ok (.iload_n 2, 1) := by decide +kernel
theorem dX9_setsMasked_3 : decode cX9_setsMasked 3 = .ok (.invokevirtual 113, 3) := by decide +kernel
theorem dX9_setsMasked_6 : decode cX9_setsMasked 6 = .ok (.istore 4, 2) := by decide +kernel
theorem dX9_setsMasked_8 : decode cX9_setsMasked 8 = .ok (.aload_n 0, 1) := by decide +kernel
theorem dX9_setsMasked_9 : decode cX9_setsMasked 9 = .ok (.iload_n 1, 1) := by decide +kernel
theorem dX9_setsMasked_10 : decode cX9_setsMasked 10 = .ok (.iconst 3, 1) := by decide +kernel
theorem dX9_setsMasked_11 : decode cX9_setsMasked 11 = .ok (.invokevirtual 61, 3) := by decide +kernel
theorem dX9_setsMasked_14 : decode cX9_setsMasked 14 = .ok (.iload 4, 2) := by decide +kernel
theorem dX9_setsMasked_16 : decode cX9_setsMasked 16 = .ok (.ifCond .eq 9, 3) := by decide +kernel
theorem dX9_setsMasked_19 : decode cX9_setsMasked 19 = .ok (.iconst 1, 1) := by decide +kernel
theorem dX9_setsMasked_20 : decode cX9_setsMasked 20 = .ok (.iload_n 2, 1) := by decide +kernel
theorem dX9_setsMasked_21 : decode cX9_setsMasked 21 = .ok (.ishl, 1) := by decide +kernel
theorem dX9_setsMasked_22 : decode cX9_setsMasked 22 = .ok (.goto 4, 3) := by decide +kernel
theorem dX9_setsMasked_25 : decode cX9_setsMasked 25 = .ok (.iconst 0, 1) := by decide +kernel
theorem dX9_setsMasked_26 : decode cX9_setsMasked 26 = .ok (.isub, 1) := by decide +kernel
theorem dX9_setsMasked_27 : decode cX9_setsMasked 27 = .ok (.istore 5, 2) := by decide +kernel
theorem dX9_setsMasked_29 : decode cX9_setsMasked 29 = .ok (.aload_n 0, 1) := by decide +kernel
theorem dX9_setsMasked_30 : decode cX9_setsMasked 30 = .ok (.iload_n 1, 1) := by decide +kernel
theorem dX9_setsMasked_31 : decode cX9_setsMasked 31 = .ok (.iconst 3, 1) := by decide +kernel
theorem dX9_setsMasked_32 : decode cX9_setsMasked 32 = .ok (.iload 5, 2) := by decide +kernel
theorem dX9_setsMasked_34 : decode cX9_setsMasked 34 = .ok (.iload_n 3, 1) := by decide +kernel
theorem dX9_setsMasked_35 : decode cX9_setsMasked 35 = .ok (.iload_n 2, 1) := by decide +kernel
theorem dX9_setsMasked_36 : decode cX9_setsMasked 36 = .ok (.ishl, 1) := by decide +kernel
theorem dX9_setsMasked_37 : decode cX9_setsMasked 37 = .ok (.iadd, 1) := by decide +kernel
theorem dX9_setsMasked_38 : decode cX9_setsMasked 38 = .ok (.invokevirtual 65, 3) := by decide +kernel
theorem dX9_setsMasked_41 : decode cX9_setsMasked 41 = .ok (.iload 4, 2) := by decide +kernel
theorem dX9_setsMasked_43 : decode cX9_setsMasked 43 = .ok (.ifCond .eq 7, 3) := by decide +kernel
theorem dX9_setsMasked_46 : decode cX9_setsMasked 46 = .ok (.iconst 1, 1) := by decide +kernel
theorem dX9_setsMasked_47 : decode cX9_setsMasked 47 = .ok (.goto 4, 3) := by decide +kernel
theorem dX9_setsMasked_50 : decode cX9_setsMasked 50 = .ok (.iconst 0, 1) := by decide +kernel
theorem dX9_setsMasked_51 : decode cX9_setsMasked 51 = .ok (.ireturn, 1) := by decide +kernel
theorem dX9_setMasked_0 : decode cX9_setMasked 0 = .ok (.aload_n 0, 1) := by decide +kernel
theorem dX9_setMasked_1 : decode cX9_setMasked 1 = .ok (.iconst 0, 1) := by decide +kernel
theorem dX9_setMasked_2 : decode cX9_setMasked 2 = .ok (.putfield 1, 3) := by decide +kernel
theorem dX9_setMasked_5 : decode cX9_setMasked 5 = .ok (.aload_n 0, 1) := by decide +kernel
theorem dX9_setMasked_6 : decode cX9_setMasked 6 = .ok (.iload_n 1, 1) := by decide +kernel
theorem dX9_setMasked_7 : decode cX9_setMasked 7 = .ok (.iload_n 2, 1) := by decide +kernel
theorem dX9_setMasked_8 : decode cX9_setMasked 8 = .ok (.invokevirtual 117, 3) := by decide +kernel
theorem dX9_setMasked_11 : decode cX9_setMasked 11 = .ok (.istore 4, 2) := by decide +kernel
theorem dX9_setMasked_13 : decode cX9_setMasked 13 = .ok (.iload 4, 2) := by decide +kernel
theorem dX9_setMasked_15 : decode cX9_setMasked 15 = .ok (.ifCond .eq 18, 3) := by decide +kernel
theorem dX9_setMasked_18 : decode cX9_setMasked 18 = .ok (.aload_n 0, 1) := by decide +kernel
theorem dX9_setMasked_19 : decode cX9_setMasked 19 = .ok (.iload 4, 2) := by decide +kernel
theorem dX9_setMasked_21 : decode cX9_setMasked 21 = .ok (.invokevirtual 87, 3) := by decide +kernel
theorem dX9_setMasked_24 : decode cX9_setMasked 24 = .ok (.ifCond .le 7, 3) := by decide +kernel
theorem dX9_setMasked_27 : decode cX9_setMasked 27 = .ok (.iconst 1, 1) := by decide +kernel
theorem dX9_setMasked_28 : decode cX9_setMasked 28 = .ok (.goto 4, 3) := by decide +kernel
theorem dX9_setMasked_31 : decode cX9_setMasked 31 = .ok (.iconst 0, 1) := by decide +kernel
theorem dX9_setMasked_32 : decode cX9_setMasked 32 = .ok (.ireturn, 1) := by decide +kernel
theorem dX9_setMasked_33 : decode cX9_setMasked 33 = .ok (.aload_n 0, 1) := by decide +kernel
theorem dX9_setMasked_34 : decode cX9_setMasked 34 = .ok (.invokevirtual 90, 3) := by decide +kernel
theorem dX9_setMasked_37 : decode cX9_setMasked 37 = .ok (.aload_n 0, 1) := by decide +kernel
theorem dX9_setMasked_38 : decode cX9_setMasked 38 = .ok (.iload_n 1, 1) := by decide +kernel
theorem dX9_setMasked_39 : decode cX9_setMasked 39 = .ok (.iload_n 2, 1) := by decide +kernel
theorem dX9_setMasked_40 : decode cX9_setMasked 40 = .ok (.iload_n 3, 1) := by decide +kernel
theorem dX9_setMasked_41 : decode cX9_setMasked 41 = .ok (.ifCond .eq 7, 3) := by decide +kernel
theorem dX9_setMasked_44 : decode cX9_setMasked 44 = .ok (.iconst 1, 1) := by decide +kernel
theorem dX9_setMasked_45 : decode cX9_setMasked 45 = .ok (.goto 4, 3) := by decide +kernel
theorem dX9_setMasked_48 : decode cX9_setMasked 48 = .ok (.iconst 0, 1) := by decide +kernel
theorem dX9_setMasked_49 : decode cX9_setMasked 49 = .ok (.invokevirtual 120, 3) := by decide +kernel
theorem dX9_setMasked_52 : decode cX9_setMasked 52 = .ok (.iconst 1, 1) := by decide +kernel
theorem dX9_setMasked_53 : decode cX9_setMasked 53 = .ok (.if_icmp .ne 7, 3) := by decide +kernel
theorem dX9_setMasked_56 : decode cX9_setMasked 56 = .ok (.iconst 1, 1) := by decide +kernel
theorem dX9_setMasked_57 : decode cX9_setMasked 57 = .ok (.goto 4, 3) := by decide +kernel
theorem dX9_setMasked_60 : decode cX9_setMasked 60 = .ok (.iconst 0, 1) := by decide +kernel
theorem dX9_setMasked_61 : decode cX9_setMasked 61 = .ok (.ireturn, 1) := by decide +kernel
theorem dX9_transposes_0 : decode cX9_transposes 0 = .ok (.iconst 0, 1) := by decide +kernel
theorem dX9_transposes_1 : decode cX9_transposes 1 = .ok (.istore_n 2, 1) := by decide +kernel
theorem dX9_transposes_2 : decode cX9_transposes 2 = .ok (.iload_n 2, 1) := by decide +kernel
theorem dX9_transposes_3 : decode cX9_transposes 3 = .ok (.bipush 6, 2) := by decide +kernel
theorem dX9_transposes_5 : decode cX9_transposes 5 = .ok (.if_icmp .ge 54, 3) := by decide +kernel
theorem dX9_transposes_8 : decode cX9_transposes 8 = .ok (.iconst 0, 1) := by decide +kernel
theorem dX9_transposes_9 : decode cX9_transposes 9 = .ok (.istore_n 3, 1) := by decide +kernel
theorem dX9_transposes_10 : decode cX9_transposes 10 = .ok (.iload_n 3, 1) := by decide +kernel
theorem dX9_transposes_11 : decode cX9_transposes 11 = .ok (.iload_n 2, 1) := by decide +kernel
theorem dX9_transposes_12 : decode cX9_transposes 12 = .ok (.if_icmp .ge 41, 3) := by decide +kernel
theorem dX9_transposes_15 : decode cX9_transposes 15 = .ok (.aload_n 0, 1) := by decide +kernel
theorem dX9_transposes_16 : decode cX9_transposes 16 = .ok (.iload_n 1, 1) := by decide +kernel
theorem dX9_transposes_17 : decode cX9_transposes 17 = .ok (.iload_n 2, 1) := by decide +kernel
theorem dX9_transposes_18 : decode cX9_transposes 18 = .ok (.iload_n 3, 1) := by decide +kernel
theorem dX9_transposes_19 : decode cX9_transposes 19 = .ok (.invokevirtual 73, 3) := by decide +kernel
theorem dX9_transposes_22 : decode cX9_transposes 22 = .ok (.istore 4, 2) := by decide +kernel
theorem dX9_transposes_24 : decode cX9_transposes 24 = .ok (.aload_n 0, 1) := by decide +kernel
theorem dX9_transposes_25 : decode cX9_transposes 25 = .ok (.iload_n 1, 1) := by decide +kernel
theorem dX9_transposes_26 : decode cX9_transposes 26 = .ok (.iload_n 2, 1) := by decide +kernel
theorem dX9_transposes_27 : decode cX9_transposes 27 = .ok (.iload_n 3, 1) := by decide +kernel
theorem dX9_transposes_28 : decode cX9_transposes 28 = .ok (.aload_n 0, 1) := by decide +kernel
theorem dX9_transposes_29 : decode cX9_transposes 29 = .ok (.iload_n 1, 1) := by decide +kernel
theorem dX9_transposes_30 : decode cX9_transposes 30 = .ok (.iload_n 3, 1) := by decide +kernel
theorem dX9_transposes_31 : decode cX9_transposes 31 = .ok (.iload_n 2, 1) := by decide +kernel
theorem dX9_transposes_32 : decode cX9_transposes 32 = .ok (.invokevirtual 73, 3) := by decide +kernel
theorem dX9_transposes_35 : decode cX9_transposes 35 = .ok (.invokevirtual 102, 3) := by decide +kernel
theorem dX9_transposes_38 : decode cX9_transposes 38 = .ok (.aload_n 0, 1) := by decide +kernel
theorem dX9_transposes_39 : decode cX9_transposes 39 = .ok (.iload_n 1, 1) := by decide +kernel
theorem dX9_transposes_40 : decode cX9_transposes 40 = .ok (.iload_n 3, 1) := by decide +kernel
theorem dX9_transposes_41 : decode cX9_transposes 41 = .ok (.iload_n 2, 1) := by decide +kernel
theorem dX9_transposes_42 : decode cX9_transposes 42 = .ok (.iload 4, 2) := by decide +kernel
theorem dX9_transposes_44 : decode cX9_transposes 44 = .ok (.invokevirtual 102, 3) := by decide +kernel
theorem dX9_transposes_47 : decode cX9_transposes 47 = .ok (.iinc 3 1, 3) := by decide +kernel
theorem dX9_transposes_50 : decode cX9_transposes 50 = .ok (.goto (-40), 3) := by decide +kernel
theorem dX9_transposes_53 : decode cX9_transposes 53 = .ok (.iinc 2 1, 3) := by decide +kernel
theorem dX9_transposes_56 : decode cX9_transposes 56 = .ok (.goto (-54), 3) := by decide +kernel
theorem dX9_transposes_59 : decode cX9_transposes 59 = .ok (.aload_n 0, 1) := by decide +kernel
theorem dX9_transposes_60 : decode cX9_transposes 60 = .ok (.iload_n 1, 1) := by decide +kernel
theorem dX9_transposes_61 : decode cX9_transposes 61 = .ok (.iconst 1, 1) := by decide +kernel
theorem dX9_transposes_62 : decode cX9_transposes 62 = .ok (.invokevirtual 61, 3) := by decide +kernel
theorem dX9_transposes_65 : decode cX9_transposes 65 = .ok (.istore_n 2, 1) := by decide +kernel
theorem dX9_transposes_66 : decode cX9_transposes 66 = .ok (.aload_n 0, 1) := by decide +kernel
theorem dX9_transposes_67 : decode cX9_transposes 67 = .ok (.iload_n 1, 1) := by decide +kernel
theorem dX9_transposes_68 : decode cX9_transposes 68 = .ok (.iconst 1, 1) := by decide +kernel
theorem dX9_transposes_69 : decode cX9_transposes 69 = .ok (.aload_n 0, 1) := by decide +kernel
theorem dX9_transposes_70 : decode cX9_transposes 70 = .ok (.iload_n 1, 1) := by decide +kernel
theorem dX9_transposes_71 : decode cX9_transposes 71 = .ok (.iconst 2, 1) := by decide +kernel
theorem dX9_transposes_72 : decode cX9_transposes 72 = .ok (.invokevirtual 61, 3) := by decide +kernel
theorem dX9_transposes_75 : decode cX9_transposes 75 = .ok (.invokevirtual 65, 3) := by decide +kernel
theorem dX9_transposes_78 : decode cX9_transposes 78 = .ok (.aload_n 0, 1) := by decide +kernel
theorem dX9_transposes_79 : decode cX9_transposes 79 = .ok (.iload_n 1, 1) := by decide +kernel
theorem dX9_transposes_80 : decode cX9_transposes 80 = .ok (.iconst 2, 1) := by decide +kernel
theorem dX9_transposes_81 : decode cX9_transposes 81 = .ok (.iload_n 2, 1) := by decide +kernel
theorem dX9_transposes_82 : decode cX9_transposes 82 = .ok (.invokevirtual 65, 3) := by decide +kernel
theorem dX9_transposes_85 : decode cX9_transposes 85 = .ok (.iload_n 2, 1) := by decide +kernel
theorem dX9_transposes_86 : decode cX9_transposes 86 = .ok (.ireturn, 1) := by decide +kernel
theorem dX9_transpose_0 : decode cX9_transpose 0 = .ok (.aload_n 0, 1) := by decide +kernel
theorem dX9_transpose_1 : decode cX9_transpose 1 = .ok (.iconst 0, 1) := by decide +kernel
theorem dX9_transpose_2 : decode cX9_transpose 2 = .ok (.putfield 1, 3) := by decide +kernel
theorem dX9_transpose_5 : decode cX9_transpose 5 = .ok (.aload_n 0, 1) := by decide +kernel
theorem dX9_transpose_6 : decode cX9_transpose 6 = .ok (.iload_n 1, 1) := by decide +kernel
theorem dX9_transpose_7 : decode cX9_transpose 7 = .ok (.invokevirtual 69, 3) := by decide +kernel
theorem dX9_transpose_10 : decode cX9_transpose 10 = .ok (.ifCond .ne 9, 3) := by decide +kernel
theorem dX9_transpose_13 : decode cX9_transpose 13 = .ok (.aload_n 0, 1) := by decide +kernel
theorem dX9_transpose_14 : decode cX9_transpose 14 = .ok (.iconst 1, 1) := by decide +kernel
theorem dX9_transpose_15 : decode cX9_transpose 15 = .ok (.invokevirtual 87, 3) := by decide +kernel
theorem dX9_transpose_18 : decode cX9_transpose 18 = .ok (.ireturn, 1) := by decide +kernel
theorem dX9_transpose_19 : decode cX9_transpose 19 = .ok (.aload_n 0, 1) := by decide +kernel
theorem dX9_transpose_20 : decode cX9_transpose 20 = .ok (.invokevirtual 90, 3) := by decide +kernel
theorem dX9_transpose_23 : decode cX9_transpose 23 = .ok (.aload_n 0, 1) := by decide +kernel
theorem dX9_transpose_24 : decode cX9_transpose 24 = .ok (.iload_n 1, 1) := by decide +kernel
theorem dX9_transpose_25 : decode cX9_transpose 25 = .ok (.invokevirtual 123, 3) := by decide +kernel
theorem dX9_transpose_28 : decode cX9_transpose 28 = .ok (.ireturn, 1) := by decide +kernel
theorem dX9_reverses_0 : decode cX9_reverses 0 = .ok (.iconst 0, 1) := by decide +kernel
theorem dX9_reverses_1 : decode cX9_reverses 1 = .ok (.istore_n 2, 1) := by decide +kernel
theorem dX9_reverses_2 : decode cX9_reverses 2 = .ok (.aload_n 0, 1) := by decide +kernel
theorem dX9_reverses_3 : decode cX9_reverses 3 = .ok (.iload_n 1, 1) := by decide +kernel
theorem dX9_reverses_4 : decode cX9_reverses 4 = .ok (.iconst 2, 1) := by decide +kernel
theorem dX9_reverses_5 : decode cX9_reverses 5 = .ok (.invokevirtual 61, 3) := by decide +kernel
theorem dX9_reverses_8 : decode cX9_reverses 8 = .ok (.istore_n 3, 1) := by decide +kernel
theorem dX9_reverses_9 : decode cX9_reverses 9 = .ok (.iconst 0, 1) := by decide +kernel
theorem dX9_reverses_10 : decode cX9_reverses 10 = .ok (.istore 4, 2) := by decide +kernel
theorem dX9_reverses_12 : decode cX9_reverses 12 = .ok (.iload 4, 2) := by decide +kernel
theorem dX9_reverses_14 : decode cX9_reverses 14 = .ok (.aload_n 0, 1) := by decide +kernel
theorem dX9_reverses_15 : decode cX9_reverses 15 = .ok (.iload_n 1, 1) := by decide +kernel
theorem dX9_reverses_16 : decode cX9_reverses 16 = .ok (.iconst 1, 1) := by decide +kernel
theorem dX9_reverses_17 : decode cX9_reverses 17 = .ok (.invokevirtual 61, 3) := by decide +kernel
theorem dX9_reverses_20 : decode cX9_reverses 20 = .ok (.if_icmp .ge 95, 3) := by decide +kernel
theorem dX9_reverses_23 : decode cX9_reverses 23 = .ok (.iconst 0, 1) := by decide +kernel
theorem dX9_reverses_24 : decode cX9_reverses 24 = .ok (.istore 5, 2) := by decide +kernel
theorem dX9_reverses_26 : decode cX9_reverses 26 = .ok (.iconst 2, 1) := by decide +kernel
theorem dX9_reverses_27 : decode cX9_reverses 27 = .ok (.iload 5, 2) := by decide +kernel
theorem dX9_reverses_29 : decode cX9_reverses 29 = .ok (.imul, 1) := by decide +kernel
theorem dX9_reverses_30 : decode cX9_reverses 30 = .ok (.iconst 1, 1) := by decide +kernel
theorem dX9_reverses_31 : decode cX9_reverses 31 = .ok (.iadd, 1) := by decide +kernel
theorem dX9_reverses_32 : decode cX9_reverses 32 = .ok (.iload_n 3, 1) := by decide +kernel
theorem dX9_reverses_33 : decode cX9_reverses 33 = .ok (.if_icmp .ge 76, 3) := by decide +kernel
theorem dX9_reverses_36 : decode cX9_reverses 36 = .ok (.aload_n 0, 1) := by decide +kernel
theorem dX9_reverses_37 : decode cX9_reverses 37 = .ok (.iload_n 1, 1) := by decide +kernel
theorem dX9_reverses_38 : decode cX9_reverses 38 = .ok (.iload 4, 2) := by decide +kernel
theorem dX9_reverses_40 : decode cX9_reverses 40 = .ok (.iload 5, 2) := by decide +kernel
theorem dX9_reverses_42 : decode cX9_reverses 42 = .ok (.invokevirtual 73, 3) := by decide +kernel
theorem dX9_reverses_45 : decode cX9_reverses 45 = .ok (.istore 6, 2) := by decide +kernel
theorem dX9_reverses_47 : decode cX9_reverses 47 = .ok (.aload_n 0, 1) := by decide +kernel
theorem dX9_reverses_48 : decode cX9_reverses 48 = .ok (.iload_n 1, 1) := by decide +kernel
theorem dX9_reverses_49 : decode cX9_reverses 49 = .ok (.iload 4, 2) := by decide +kernel
theorem dX9_reverses_51 : decode cX9_reverses 51 = .ok (.iload_n 3, 1) := by decide +kernel
theorem dX9_reverses_52 : decode cX9_reverses 52 = .ok (.iconst 1, 1) := by decide +kernel
theorem dX9_reverses_53 : decode cX9_reverses 53 = .ok (.isub, 1) := by decide +kernel
theorem dX9_reverses_54 : decode cX9_reverses 54 = .ok (.iload 5, 2) := by decide +kernel
theorem dX9_reverses_56 : decode cX9_reverses 56 = .ok (.isub, 1) := by decide +kernel
theorem dX9_reverses_57 : decode cX9_reverses 57 = .ok (.invokevirtual 73, 3) := by decide +kernel
theorem dX9_reverses_60 : decode cX9_reverses 60 = .ok (.istore 7, 2) := by decide +kernel
theorem dX9_reverses_62 : decode cX9_reverses 62 = .ok (.aload_n 0, 1) := by decide +kernel
theorem dX9_reverses_63 : decode cX9_reverses 63 = .ok (.iload_n 1, 1) := by decide +kernel
theorem dX9_reverses_64 : decode cX9_reverses 64 = .ok (.iload 4, 2) := by decide +kernel
theorem dX9_reverses_66 : decode cX9_reverses 66 = .ok (.iload 5, 2) := by decide +kernel
theorem dX9_reverses_68 : decode cX9_reverses 68 = .ok (.iload 7, 2) := by decide +kernel
theorem dX9_reverses_70 : decode cX9_reverses 70 = .ok (.invokevirtual 102, 3) := by decide +kernel
theorem dX9_reverses_73 : decode cX9_reverses 73 = .ok (.aload_n 0, 1) := by decide +kernel
theorem dX9_reverses_74 : decode cX9_reverses 74 = .ok (.iload_n 1, 1) := by decide +kernel
theorem dX9_reverses_75 : decode cX9_reverses 75 = .ok (.iload 4, 2) := by decide +kernel
theorem dX9_reverses_77 : decode cX9_reverses 77 = .ok (.iload_n 3, 1) := by decide +kernel
theorem dX9_reverses_78 : decode cX9_reverses 78 = .ok (.iconst 1, 1) := by decide +kernel
theorem dX9_reverses_79 : decode cX9_reverses 79 = .ok (.isub, 1) := by decide +kernel
theorem dX9_reverses_80 : decode cX9_reverses 80 = .ok (.iload 5, 2) := by decide +kernel
theorem dX9_reverses_82 : decode cX9_reverses 82 = .ok (.isub, 1) := by decide +kernel
theorem dX9_reverses_83 : decode cX9_reverses 83 = .ok (.iload 6, 2) := by decide +kernel
theorem dX9_reverses_85 : decode cX9_reverses 85 = .ok (.invokevirtual 102, 3) := by decide +kernel
theorem dX9_reverses_88 : decode cX9_reverses 88 = .ok (.iload_n 2, 1) := by decide +kernel
theorem dX9_reverses_89 : decode cX9_reverses 89 = .ok (.iload 6, 2) := by decide +kernel
theorem dX9_reverses_91 : decode cX9_reverses 91 = .ok (.iload 7, 2) := by decide +kernel
theorem dX9_reverses_93 : decode cX9_reverses 93 = .ok (.if_icmp .ne 7, 3) := by decide +kernel
theorem dX9_reverses_96 : decode cX9_reverses 96 = .ok (.iconst 0, 1) := by decide +kernel
theorem dX9_reverses_97 : decode cX9_reverses 97 = .ok (.goto 4, 3) := by decide +kernel
theorem dX9_reverses_100 : decode cX9_reverses 100 = .ok (.iconst 2, 1) := by decide +kernel
theorem dX9_reverses_101 : decode cX9_reverses 101 = .ok (.iadd, 1) := by decide +kernel
theorem dX9_reverses_102 : decode cX9_reverses 102 = .ok (.istore_n 2, 1) := by decide +kernel
theorem dX9_reverses_103 : decode cX9_reverses 103 = .ok (.iinc 5 1, 3) := by decide +kernel
theorem dX9_reverses_106 : decode cX9_reverses 106 = .ok (.goto (-80), 3) := by decide +kernel
theorem dX9_reverses_109 : decode cX9_reverses 109 = .ok (.iinc 4 1, 3) := by decide +kernel
theorem dX9_reverses_112 : decode cX9_reverses 112 = .ok (.goto (-100), 3) := by decide +kernel
theorem dX9_reverses_115 : decode cX9_reverses 115 = .ok (.iload_n 2, 1) := by decide +kernel
theorem dX9_reverses_116 : decode cX9_reverses 116 = .ok (.ireturn, 1) := by decide +kernel
theorem dX9_reverse_0 : decode cX9_reverse 0 = .ok (.aload_n 0, 1) := by decide +kernel
theorem dX9_reverse_1 : decode cX9_reverse 1 = .ok (.iconst 0, 1) := by decide +kernel
theorem dX9_reverse_2 : decode cX9_reverse 2 = .ok (.putfield 1, 3) := by decide +kernel
theorem dX9_reverse_5 : decode cX9_reverse 5 = .ok (.aload_n 0, 1) := by decide +kernel
theorem dX9_reverse_6 : decode cX9_reverse 6 = .ok (.iload_n 1, 1) := by decide +kernel
theorem dX9_reverse_7 : decode cX9_reverse 7 = .ok (.invokevirtual 69, 3) := by decide +kernel
theorem dX9_reverse_10 : decode cX9_reverse 10 = .ok (.ifCond .ne 9, 3) := by decide +kernel
theorem dX9_reverse_13 : decode cX9_reverse 13 = .ok (.aload_n 0, 1) := by decide +kernel
theorem dX9_reverse_14 : decode cX9_reverse 14 = .ok (.iconst 1, 1) := by decide +kernel
theorem dX9_reverse_15 : decode cX9_reverse 15 = .ok (.invokevirtual 87, 3) := by decide +kernel
theorem dX9_reverse_18 : decode cX9_reverse 18 = .ok (.ireturn, 1) := by decide +kernel
theorem dX9_reverse_19 : decode cX9_reverse 19 = .ok (.aload_n 0, 1) := by decide +kernel
theorem dX9_reverse_20 : decode cX9_reverse 20 = .ok (.invokevirtual 90, 3) := by decide +kernel
theorem dX9_reverse_23 : decode cX9_reverse 23 = .ok (.aload_n 0, 1) := by decide +kernel
theorem dX9_reverse_24 : decode cX9_reverse 24 = .ok (.iload_n 1, 1) := by decide +kernel
theorem dX9_reverse_25 : decode cX9_reverse 25 = .ok (.invokevirtual 126, 3) := by decide +kernel
theorem dX9_reverse_28 : decode cX9_reverse 28 = .ok (.ireturn, 1) := by decide +kernel
theorem dX9_notRaise_0 : decode cX9_notRaise 0 = .ok (.aload_n 0, 1) := by decide +kernel
theorem dX9_notRaise_1 : decode cX9_notRaise 1 = .ok (.iload_n 1, 1) := by decide +kernel
theorem dX9_notRaise_2 : decode cX9_notRaise 2 = .ok (.invokevirtual 69, 3) := by decide +kernel
theorem dX9_notRaise_5 : decode cX9_notRaise 5 = .ok (.ifCond .ne 5, 3) := by decide +kernel
theorem dX9_notRaise_8 : decode cX9_notRaise 8 = .ok (.iconst 1, 1) := by decide +kernel
theorem dX9_notRaise_9 : decode cX9_notRaise 9 = .ok (.ireturn, 1) := by decide +kernel
theorem dX9_notRaise_10 : decode cX9_notRaise 10 = .ok (.iload_n 2, 1) := by decide +kernel
theorem dX9_notRaise_11 : decode cX9_notRaise 11 = .ok (.bipush (-9), 2) := by decide +kernel
theorem dX9_notRaise_13 : decode cX9_notRaise 13 = .ok (.bipush 9, 2) := by decide +kernel
theorem dX9_notRaise_15 : decode cX9_notRaise 15 = .ok (.invokestatic 57, 3) := by decide +kernel
theorem dX9_notRaise_18 : decode cX9_notRaise 18 = .ok (.ifCond .ne 5, 3) := by decide +kernel
theorem dX9_notRaise_21 : decode cX9_notRaise 21 = .ok (.iconst 2, 1) := by decide +kernel
theorem dX9_notRaise_22 : decode cX9_notRaise 22 = .ok (.ireturn, 1) := by decide +kernel
theorem dX9_notRaise_23 : decode cX9_notRaise 23 = .ok (.bipush 7, 2) := by decide +kernel
theorem dX9_notRaise_25 : decode cX9_notRaise 25 = .ok (.istore_n 3, 1) := by decide +kernel
theorem dX9_notRaise_26 : decode cX9_notRaise 26 = .ok (.iload_n 3, 1) := by decide +kernel
theorem dX9_notRaise_27 : decode cX9_notRaise 27 = .ok (.bipush 43, 2) := by decide +kernel
theorem dX9_notRaise_29 : decode cX9_notRaise 29 = .ok (.if_icmp .ge 37, 3) := by decide +kernel
theorem dX9_notRaise_32 : decode cX9_notRaise 32 = .ok (.aload_n 0, 1) := by decide +kernel
theorem dX9_notRaise_33 : decode cX9_notRaise 33 = .ok (.iload_n 1, 1) := by decide +kernel
theorem dX9_notRaise_34 : decode cX9_notRaise 34 = .ok (.iload_n 3, 1) := by decide +kernel
theorem dX9_notRaise_35 : decode cX9_notRaise 35 = .ok (.invokevirtual 61, 3) := by decide +kernel
theorem dX9_notRaise_38 : decode cX9_notRaise 38 = .ok (.ifCond .eq 22, 3) := by decide +kernel
theorem dX9_notRaise_41 : decode cX9_notRaise 41 = .ok (.aload_n 0, 1) := by decide +kernel
theorem dX9_notRaise_42 : decode cX9_notRaise 42 = .ok (.iload_n 1, 1) := by decide +kernel
theorem dX9_notRaise_43 : decode cX9_notRaise 43 = .ok (.iload_n 3, 1) := by decide +kernel
theorem dX9_notRaise_44 : decode cX9_notRaise 44 = .ok (.invokevirtual 61, 3) := by decide +kernel
theorem dX9_notRaise_47 : decode cX9_notRaise 47 = .ok (.iload_n 2, 1) := by decide +kernel
theorem dX9_notRaise_48 : decode cX9_notRaise 48 = .ok (.iadd, 1) := by decide +kernel
theorem dX9_notRaise_49 : decode cX9_notRaise 49 = .ok (.iconst 1, 1) := by decide +kernel
theorem dX9_notRaise_50 : decode cX9_notRaise 50 = .ok (.bipush 9, 2) := by decide +kernel
theorem dX9_notRaise_52 : decode cX9_notRaise 52 = .ok (.invokestatic 57, 3) := by decide +kernel
theorem dX9_notRaise_55 : decode cX9_notRaise 55 = .ok (.ifCond .ne 5, 3) := by decide +kernel
theorem dX9_notRaise_58 : decode cX9_notRaise 58 = .ok (.iconst 3, 1) := by decide +kernel
theorem dX9_notRaise_59 : decode cX9_notRaise 59 = .ok (.ireturn, 1) := by decide +kernel
theorem dX9_notRaise_60 : decode cX9_notRaise 60 = .ok (.iinc 3 1, 3) := by decide +kernel
theorem dX9_notRaise_63 : decode cX9_notRaise 63 = .ok (.goto (-37), 3) := by decide +kernel
theorem dX9_notRaise_66 : decode cX9_notRaise 66 = .ok (.iconst 0, 1) := by decide +kernel
theorem dX9_notRaise_67 : decode cX9_notRaise 67 = .ok (.ireturn, 1) := by decide +kernel
theorem dX9_raises_0 : decode cX9_raises 0 = .ok (.iconst 0, 1) := by decide +kernel
theorem dX9_raises_1 : decode cX9_raises 1 = .ok (.istore_n 3, 1) := by decide +kernel
theorem dX9_raises_2 : decode cX9_raises 2 = .ok (.bipush 7, 2) := by decide +kernel
theorem dX9_raises_4 : decode cX9_raises 4 = .ok (.istore 4, 2) := by decide +kernel
theorem dX9_raises_6 : decode cX9_raises 6 = .ok (.iload 4, 2) := by decide +kernel
theorem dX9_raises_8 : decode cX9_raises 8 = .ok (.bipush 43, 2) := by decide +kernel
theorem dX9_raises_10 : decode cX9_raises 10 = .ok (.if_icmp .ge 41, 3) := by decide +kernel
theorem dX9_raises_13 : decode cX9_raises 13 = .ok (.aload_n 0, 1) := by decide +kernel
theorem dX9_raises_14 : decode cX9_raises 14 = .ok (.iload_n 1, 1) := by decide +kernel
theorem dX9_raises_15 : decode cX9_raises 15 = .ok (.iload 4, 2) := by decide +kernel
theorem dX9_raises_17 : decode cX9_raises 17 = .ok (.invokevirtual 61, 3) := by decide +kernel
theorem dX9_raises_20 : decode cX9_raises 20 = .ok (.ifCond .ne 6, 3) := by decide +kernel
theorem dX9_raises_23 : decode cX9_raises 23 = .ok (.goto 22, 3) := by decide +kernel
theorem dX9_raises_26 : decode cX9_raises 26 = .ok (.aload_n 0, 1) := by decide +kernel
theorem dX9_raises_27 : decode cX9_raises 27 = .ok (.iload_n 1, 1) := by decide +kernel
theorem dX9_raises_28 : decode cX9_raises 28 = .ok (.iload 4, 2) := by decide +kernel
theorem dX9_raises_30 : decode cX9_raises 30 = .ok (.aload_n 0, 1) := by decide +kernel
theorem dX9_raises_31 : decode cX9_raises 31 = .ok (.iload_n 1, 1) := by decide +kernel
theorem dX9_raises_32 : decode cX9_raises 32 = .ok (.iload 4, 2) := by decide +kernel
theorem dX9_raises_34 : decode cX9_raises 34 = .ok (.invokevirtual 61, 3) := by decide +kernel
theorem dX9_raises_37 : decode cX9_raises 37 = .ok (.iload_n 2, 1) := by decide +kernel
theorem dX9_raises_38 : decode cX9_raises 38 = .ok (.iadd, 1) := by decide +kernel
theorem dX9_raises_39 : decode cX9_raises 39 = .ok (.invokevirtual 65, 3) := by decide +kernel
theorem dX9_raises_42 : decode cX9_raises 42 = .ok (.iinc 3 1, 3) := by decide +kernel
theorem dX9_raises_45 : decode cX9_raises 45 = .ok (.iinc 4 1, 3) := by decide +kernel
theorem dX9_raises_48 : decode cX9_raises 48 = .ok (.goto (-42), 3) := by decide +kernel
theorem dX9_raises_51 : decode cX9_raises 51 = .ok (.iload_n 3, 1) := by decide +kernel
theorem dX9_raises_52 : decode cX9_raises 52 = .ok (.ireturn, 1) := by decide +kernel
theorem dX9_raise_0 : decode cX9_raise 0 = .ok (.aload_n 0, 1) := by decide +kernel
theorem dX9_raise_1 : decode cX9_raise 1 = .ok (.iconst 0, 1) := by decide +kernel
theorem dX9_raise_2 : decode cX9_raise 2 = .ok (.putfield 1, 3) := by decide +kernel
theorem dX9_raise_5 : decode cX9_raise 5 = .ok (.aload_n 0, 1) := by decide +kernel
theorem dX9_raise_6 : decode cX9_raise 6 = .ok (.iload_n 1, 1) := by decide +kernel
theorem dX9_raise_7 : decode cX9_raise 7 = .ok (.iload_n 2, 1) := by decide +kernel
theorem dX9_raise_8 : decode cX9_raise 8 = .ok (.invokevirtual 129, 3) := by decide +kernel
theorem dX9_raise_11 : decode cX9_raise 11 = .ok (.istore_n 3, 1) := by decide +kernel
theorem dX9_raise_12 : decode cX9_raise 12 = .ok (.iload_n 3, 1) := by decide +kernel
theorem dX9_raise_13 : decode cX9_raise 13 = .ok (.ifCond .eq 9, 3) := by decide +kernel
theorem dX9_raise_16 : decode cX9_raise 16 = .ok (.aload_n 0, 1) := by decide +kernel
theorem dX9_raise_17 : decode cX9_raise 17 = .ok (.iload_n 3, 1) := by decide +kernel
theorem dX9_raise_18 : decode cX9_raise 18 = .ok (.invokevirtual 87, 3) := by decide +kernel
theorem dX9_raise_21 : decode cX9_raise 21 = .ok (.ireturn, 1) := by decide +kernel
theorem dX9_raise_22 : decode cX9_raise 22 = .ok (.aload_n 0, 1) := by decide +kernel
theorem dX9_raise_23 : decode cX9_raise 23 = .ok (.invokevirtual 90, 3) := by decide +kernel
theorem dX9_raise_26 : decode cX9_raise 26 = .ok (.aload_n 0, 1) := by decide +kernel
theorem dX9_raise_27 : decode cX9_raise 27 = .ok (.iload_n 1, 1) := by decide +kernel
theorem dX9_raise_28 : decode cX9_raise 28 = .ok (.iload_n 2, 1) := by decide +kernel
theorem dX9_raise_29 : decode cX9_raise 29 = .ok (.invokevirtual 132, 3) := by decide +kernel
theorem dX9_raise_32 : decode cX9_raise 32 = .ok (.ireturn, 1) := by decide +kernel
theorem dX9_notTempo_0 : decode cX9_notTempo 0 = .ok (.iload_n 0, 1) := by decide +kernel
theorem dX9_notTempo_1 : decode cX9_notTempo 1 = .ok (.iconst 1, 1) := by decide +kernel
theorem dX9_notTempo_2 : decode cX9_notTempo 2 = .ok (.iconst 5, 1) := by decide +kernel
theorem dX9_notTempo_3 : decode cX9_notTempo 3 = .ok (.invokestatic 57, 3) := by decide +kernel
theorem dX9_notTempo_6 : decode cX9_notTempo 6 = .ok (.ifCond .eq 7, 3) := by decide +kernel
theorem dX9_notTempo_9 : decode cX9_notTempo 9 = .ok (.iconst 0, 1) := by decide +kernel
theorem dX9_notTempo_10 : decode cX9_notTempo 10 = .ok (.goto 4, 3) := by decide +kernel
theorem dX9_notTempo_13 : decode cX9_notTempo 13 = .ok (.iconst 1, 1) := by decide +kernel
theorem dX9_notTempo_14 : decode cX9_notTempo 14 = .ok (.ireturn, 1) := by decide +kernel
theorem dX9_sets_0 : decode cX9_sets 0 = .ok (.aload_n 0, 1) := by decide +kernel
theorem dX9_sets_1 : decode cX9_sets 1 = .ok (.getfield 13, 3) := by decide +kernel
theorem dX9_sets_4 : decode cX9_sets 4 = .ok (.iload_n 1, 1) := by decide +kernel
theorem dX9_sets_5 : decode cX9_sets 5 = .ok (.iaload, 1) := by decide +kernel
theorem dX9_sets_6 : decode cX9_sets 6 = .ok (.istore_n 3, 1) := by decide +kernel
theorem dX9_sets_7 : decode cX9_sets 7 = .ok (.aload_n 0, 1) := by decide +kernel
theorem dX9_sets_8 : decode cX9_sets 8 = .ok (.getfield 13, 3) := by decide +kernel
theorem dX9_sets_11 : decode cX9_sets 11 = .ok (.iload_n 1, 1) := by decide +kernel
theorem dX9_sets_12 : decode cX9_sets 12 = .ok (.iload_n 2, 1) := by decide +kernel
theorem dX9_sets_13 : decode cX9_sets 13 = .ok (.iastore, 1) := by decide +kernel
theorem dX9_sets_14 : decode cX9_sets 14 = .ok (.iload_n 3, 1) := by decide +kernel
theorem dX9_sets_15 : decode cX9_sets 15 = .ok (.ireturn, 1) := by decide +kernel
theorem dX9_setTempo_0 : decode cX9_setTempo 0 = .ok (.aload_n 0, 1) := by decide +kernel
theorem dX9_setTempo_1 : decode cX9_setTempo 1 = .ok (.iconst 0, 1) := by decide +kernel
theorem dX9_setTempo_2 : decode cX9_setTempo 2 = .ok (.putfield 1, 3) := by decide +kernel
theorem dX9_setTempo_5 : decode cX9_setTempo 5 = .ok (.iload_n 1, 1) := by decide +kernel
theorem dX9_setTempo_6 : decode cX9_setTempo 6 = .ok (.invokestatic 135, 3) := by decide +kernel
theorem dX9_setTempo_9 : decode cX9_setTempo 9 = .ok (.ifCond .eq 9, 3) := by decide +kernel
theorem dX9_setTempo_12 : decode cX9_setTempo 12 = .ok (.aload_n 0, 1) := by decide +kernel
theorem dX9_setTempo_13 : decode cX9_setTempo 13 = .ok (.iconst 1, 1) := by decide +kernel
theorem dX9_setTempo_14 : decode cX9_setTempo 14 = .ok (.invokevirtual 87, 3) := by decide +kernel
theorem dX9_setTempo_17 : decode cX9_setTempo 17 = .ok (.ireturn, 1) := by decide +kernel
theorem dX9_setTempo_18 : decode cX9_setTempo 18 = .ok (.aload_n 0, 1) := by decide +kernel
theorem dX9_setTempo_19 : decode cX9_setTempo 19 = .ok (.invokevirtual 90, 3) := by decide +kernel
theorem dX9_setTempo_22 : decode cX9_setTempo 22 = .ok (.aload_n 0, 1) := by decide +kernel
theorem dX9_setTempo_23 : decode cX9_setTempo 23 = .ok (.iconst 2, 1) := by decide +kernel
theorem dX9_setTempo_24 : decode cX9_setTempo 24 = .ok (.iload_n 1, 1) := by decide +kernel
theorem dX9_setTempo_25 : decode cX9_setTempo 25 = .ok (.invokevirtual 138, 3) := by decide +kernel
theorem dX9_setTempo_28 : decode cX9_setTempo 28 = .ok (.ireturn, 1) := by decide +kernel
theorem dX9_notLimit_0 : decode cX9_notLimit 0 = .ok (.iload_n 0, 1) := by decide +kernel
theorem dX9_notLimit_1 : decode cX9_notLimit 1 = .ok (.iconst 1, 1) := by decide +kernel
theorem dX9_notLimit_2 : decode cX9_notLimit 2 = .ok (.bipush 99, 2) := by decide +kernel
theorem dX9_notLimit_4 : decode cX9_notLimit 4 = .ok (.invokestatic 57, 3) := by decide +kernel
theorem dX9_notLimit_7 : decode cX9_notLimit 7 = .ok (.ifCond .eq 7, 3) := by decide +kernel
theorem dX9_notLimit_10 : decode cX9_notLimit 10 = .ok (.iconst 0, 1) := by decide +kernel
theorem dX9_notLimit_11 : decode cX9_notLimit 11 = .ok (.goto 4, 3) := by decide +kernel
theorem dX9_notLimit_14 : decode cX9_notLimit 14 = .ok (.iconst 1, 1) := by decide +kernel
theorem dX9_notLimit_15 : decode cX9_notLimit 15 = .ok (.ireturn, 1) := by decide +kernel
theorem dX9_setLimit_0 : decode cX9_setLimit 0 = .ok (.aload_n 0, 1) := by decide +kernel
theorem dX9_setLimit_1 : decode cX9_setLimit 1 = .ok (.iconst 0, 1) := by decide +kernel
theorem dX9_setLimit_2 : decode cX9_setLimit 2 = .ok (.putfield 1, 3) := by decide +kernel
theorem dX9_setLimit_5 : decode cX9_setLimit 5 = .ok (.iload_n 1, 1) := by decide +kernel
theorem dX9_setLimit_6 : decode cX9_setLimit 6 = .ok (.invokestatic 141, 3) := by decide +kernel
theorem dX9_setLimit_9 : decode cX9_setLimit 9 = .ok (.ifCond .eq 9, 3) := by decide +kernel
theorem dX9_setLimit_12 : decode cX9_setLimit 12 = .ok (.aload_n 0, 1) := by decide +kernel
theorem dX9_setLimit_13 : decode cX9_setLimit 13 = .ok (.iconst 1, 1) := by decide +kernel
theorem dX9_setLimit_14 : decode cX9_setLimit 14 = .ok (.invokevirtual 87, 3) := by decide +kernel
theorem dX9_setLimit_17 : decode cX9_setLimit 17 = .ok (.ireturn, 1) := by decide +kernel
theorem dX9_setLimit_18 : decode cX9_setLimit 18 = .ok (.aload_n 0, 1) := by decide +kernel
theorem dX9_setLimit_19 : decode cX9_setLimit 19 = .ok (.invokevirtual 90, 3) := by decide +kernel
theorem dX9_setLimit_22 : decode cX9_setLimit 22 = .ok (.aload_n 0, 1) := by decide +kernel
theorem dX9_setLimit_23 : decode cX9_setLimit 23 = .ok (.iconst 3, 1) := by decide +kernel
theorem dX9_setLimit_24 : decode cX9_setLimit 24 = .ok (.iload_n 1, 1) := by decide +kernel
theorem dX9_setLimit_25 : decode cX9_setLimit 25 = .ok (.invokevirtual 138, 3) := by decide +kernel
theorem dX9_setLimit_28 : decode cX9_setLimit 28 = .ok (.ireturn, 1) := by decide +kernel
theorem dX9_columnNow_0 : decode cX9_columnNow 0 = .ok (.aload_n 0, 1) := by decide +kernel
theorem dX9_columnNow_1 : decode cX9_columnNow 1 = .ok (.getfield 13, 3) := by decide +kernel
theorem dX9_columnNow_4 : decode cX9_columnNow 4 = .ok (.iconst 1, 1) := by decide +kernel
theorem dX9_columnNow_5 : decode cX9_columnNow 5 = .ok (.iaload, 1) := by decide +kernel
theorem dX9_columnNow_6 : decode cX9_columnNow 6 = .ok (.aload_n 0, 1) := by decide +kernel
theorem dX9_columnNow_7 : decode cX9_columnNow 7 = .ok (.iload_n 1, 1) := by decide +kernel
theorem dX9_columnNow_8 : decode cX9_columnNow 8 = .ok (.iconst 2, 1) := by decide +kernel
theorem dX9_columnNow_9 : decode cX9_columnNow 9 = .ok (.invokevirtual 61, 3) := by decide +kernel
theorem dX9_columnNow_12 : decode cX9_columnNow 12 = .ok (.irem, 1) := by decide +kernel
theorem dX9_columnNow_13 : decode cX9_columnNow 13 = .ok (.ireturn, 1) := by decide +kernel
theorem dX9_plays_0 : decode cX9_plays 0 = .ok (.aload_n 0, 1) := by decide +kernel
theorem dX9_plays_1 : decode cX9_plays 1 = .ok (.iload_n 1, 1) := by decide +kernel
theorem dX9_plays_2 : decode cX9_plays 2 = .ok (.iconst 5, 1) := by decide +kernel
theorem dX9_plays_3 : decode cX9_plays 3 = .ok (.invokevirtual 61, 3) := by decide +kernel
theorem dX9_plays_6 : decode cX9_plays 6 = .ok (.ifCond .ne 20, 3) := by decide +kernel
theorem dX9_plays_9 : decode cX9_plays 9 = .ok (.aload_n 0, 1) := by decide +kernel
theorem dX9_plays_10 : decode cX9_plays 10 = .ok (.iload_n 1, 1) := by decide +kernel
theorem dX9_plays_11 : decode cX9_plays 11 = .ok (.aload_n 0, 1) := by decide +kernel
theorem dX9_plays_12 : decode cX9_plays 12 = .ok (.iload_n 1, 1) := by decide +kernel
theorem dX9_plays_13 : decode cX9_plays 13 = .ok (.invokevirtual 144, 3) := by decide +kernel
theorem dX9_plays_16 : decode cX9_plays 16 = .ok (.invokevirtual 113, 3) := by decide +kernel
theorem dX9_plays_19 : decode cX9_plays 19 = .ok (.ifCond .ne 7, 3) := by decide +kernel
theorem dX9_plays_22 : decode cX9_plays 22 = .ok (.iconst 1, 1) := by decide +kernel
theorem dX9_plays_23 : decode cX9_plays 23 = .ok (.goto 4, 3) := by decide +kernel
theorem dX9_plays_26 : decode cX9_plays 26 = .ok (.iconst 0, 1) := by decide +kernel
theorem dX9_plays_27 : decode cX9_plays 27 = .ok (.ireturn, 1) := by decide +kernel
theorem dX9_volumeNow_0 : decode cX9_volumeNow 0 = .ok (.aload_n 0, 1) := by decide +kernel
theorem dX9_volumeNow_1 : decode cX9_volumeNow 1 = .ok (.iload_n 1, 1) := by decide +kernel
theorem dX9_volumeNow_2 : decode cX9_volumeNow 2 = .ok (.invokevirtual 147, 3) := by decide +kernel
theorem dX9_volumeNow_5 : decode cX9_volumeNow 5 = .ok (.ifCond .eq 16, 3) := by decide +kernel
theorem dX9_volumeNow_8 : decode cX9_volumeNow 8 = .ok (.aload_n 0, 1) := by decide +kernel
theorem dX9_volumeNow_9 : decode cX9_volumeNow 9 = .ok (.iload_n 1, 1) := by decide +kernel
theorem dX9_volumeNow_10 : decode cX9_volumeNow 10 = .ok (.aload_n 0, 1) := by decide +kernel
theorem dX9_volumeNow_11 : decode cX9_volumeNow 11 = .ok (.iload_n 1, 1) := by decide +kernel
theorem dX9_volumeNow_12 : decode cX9_volumeNow 12 = .ok (.invokevirtual 144, 3) := by decide +kernel
theorem dX9_volumeNow_15 : decode cX9_volumeNow 15 = .ok (.invokevirtual 150, 3) := by decide +kernel
theorem dX9_volumeNow_18 : decode cX9_volumeNow 18 = .ok (.goto 4, 3) := by decide +kernel
theorem dX9_volumeNow_21 : decode cX9_volumeNow 21 = .ok (.iconst 0, 1) := by decide +kernel
theorem dX9_volumeNow_22 : decode cX9_volumeNow 22 = .ok (.ireturn, 1) := by decide +kernel
theorem dX9_sounds_0 : decode cX9_sounds 0 = .ok (.iconst 0, 1) := by decide +kernel
theorem dX9_sounds_1 : decode cX9_sounds 1 = .ok (.istore_n 3, 1) := by decide +kernel
theorem dX9_sounds_2 : decode cX9_sounds 2 = .ok (.iload_n 3, 1) := by decide +kernel
theorem dX9_sounds_3 : decode cX9_sounds 3 = .ok (.aload_n 0, 1) := by decide +kernel
theorem dX9_sounds_4 : decode cX9_sounds 4 = .ok (.iload_n 1, 1) := by decide +kernel
theorem dX9_sounds_5 : decode cX9_sounds 5 = .ok (.iconst 1, 1) := by decide +kernel
theorem dX9_sounds_6 : decode cX9_sounds 6 = .ok (.invokevirtual 61, 3) := by decide +kernel
theorem dX9_sounds_9 : decode cX9_sounds 9 = .ok (.if_icmp .ge 49, 3) := by decide +kernel
theorem dX9_sounds_12 : decode cX9_sounds 12 = .ok (.aload_n 0, 1) := by decide +kernel
theorem dX9_sounds_13 : decode cX9_sounds 13 = .ok (.iload_n 1, 1) := by decide +kernel
theorem dX9_sounds_14 : decode cX9_sounds 14 = .ok (.iload_n 3, 1) := by decide +kernel
theorem dX9_sounds_15 : decode cX9_sounds 15 = .ok (.iload_n 2, 1) := by decide +kernel
theorem dX9_sounds_16 : decode cX9_sounds 16 = .ok (.invokevirtual 73, 3) := by decide +kernel
theorem dX9_sounds_19 : decode cX9_sounds 19 = .ok (.istore 4, 2) := by decide +kernel
theorem dX9_sounds_21 : decode cX9_sounds 21 = .ok (.iload 4, 2) := by decide +kernel
theorem dX9_sounds_23 : decode cX9_sounds 23 = .ok (.ifCond .le 29, 3) := by decide +kernel
theorem dX9_sounds_26 : decode cX9_sounds 26 = .ok (.aload_n 0, 1) := by decide +kernel
theorem dX9_sounds_27 : decode cX9_sounds 27 = .ok (.getfield 13, 3) := by decide +kernel
theorem dX9_sounds_30 : decode cX9_sounds 30 = .ok (.bipush 18, 2) := by decide +kernel
theorem dX9_sounds_32 : decode cX9_sounds 32 = .ok (.bipush 9, 2) := by decide +kernel
theorem dX9_sounds_34 : decode cX9_sounds 34 = .ok (.aload_n 0, 1) := by decide +kernel
theorem dX9_sounds_35 : decode cX9_sounds 35 = .ok (.iload_n 1, 1) := by decide +kernel
theorem dX9_sounds_36 : decode cX9_sounds 36 = .ok (.iconst 0, 1) := by decide +kernel
theorem dX9_sounds_37 : decode cX9_sounds 37 = .ok (.invokevirtual 61, 3) := by decide +kernel
theorem dX9_sounds_40 : decode cX9_sounds 40 = .ok (.imul, 1) := by decide +kernel
theorem dX9_sounds_41 : decode cX9_sounds 41 = .ok (.iadd, 1) := by decide +kernel
theorem dX9_sounds_42 : decode cX9_sounds 42 = .ok (.iload 4, 2) := by decide +kernel
theorem dX9_sounds_44 : decode cX9_sounds 44 = .ok (.iadd, 1) := by decide +kernel
theorem dX9_sounds_45 : decode cX9_sounds 45 = .ok (.iconst 1, 1) := by decide +kernel
theorem dX9_sounds_46 : decode cX9_sounds 46 = .ok (.isub, 1) := by decide +kernel
theorem dX9_sounds_47 : decode cX9_sounds 47 = .ok (.dup2, 1) := by decide +kernel
theorem dX9_sounds_48 : decode cX9_sounds 48 = .ok (.iaload, 1) := by decide +kernel
theorem dX9_sounds_49 : decode cX9_sounds 49 = .ok (.iconst 1, 1) := by decide +kernel
theorem dX9_sounds_50 : decode cX9_sounds 50 = .ok (.iadd, 1) := by decide +kernel
theorem dX9_sounds_51 : decode cX9_sounds 51 = .ok (.iastore, 1) := by decide +kernel
theorem dX9_sounds_52 : decode cX9_sounds 52 = .ok (.iinc 3 1, 3) := by decide +kernel
theorem dX9_sounds_55 : decode cX9_sounds 55 = .ok (.goto (-53), 3) := by decide +kernel
theorem dX9_sounds_58 : decode cX9_sounds 58 = .ok (.return_, 1) := by decide +kernel
theorem dX9_tires_0 : decode cX9_tires 0 = .ok (.aload_n 0, 1) := by decide +kernel
theorem dX9_tires_1 : decode cX9_tires 1 = .ok (.iload_n 1, 1) := by decide +kernel
theorem dX9_tires_2 : decode cX9_tires 2 = .ok (.iconst 4, 1) := by decide +kernel
theorem dX9_tires_3 : decode cX9_tires 3 = .ok (.aload_n 0, 1) := by decide +kernel
theorem dX9_tires_4 : decode cX9_tires 4 = .ok (.iload_n 1, 1) := by decide +kernel
theorem dX9_tires_5 : decode cX9_tires 5 = .ok (.iconst 4, 1) := by decide +kernel
theorem dX9_tires_6 : decode cX9_tires 6 = .ok (.invokevirtual 61, 3) := by decide +kernel
theorem dX9_tires_9 : decode cX9_tires 9 = .ok (.iconst 1, 1) := by decide +kernel
theorem dX9_tires_10 : decode cX9_tires 10 = .ok (.iadd, 1) := by decide +kernel
theorem dX9_tires_11 : decode cX9_tires 11 = .ok (.invokevirtual 65, 3) := by decide +kernel
theorem dX9_tires_14 : decode cX9_tires 14 = .ok (.aload_n 0, 1) := by decide +kernel
theorem dX9_tires_15 : decode cX9_tires 15 = .ok (.iload_n 1, 1) := by decide +kernel
theorem dX9_tires_16 : decode cX9_tires 16 = .ok (.iconst 4, 1) := by decide +kernel
theorem dX9_tires_17 : decode cX9_tires 17 = .ok (.invokevirtual 61, 3) := by decide +kernel
theorem dX9_tires_20 : decode cX9_tires 20 = .ok (.iconst 3, 1) := by decide +kernel
theorem dX9_tires_21 : decode cX9_tires 21 = .ok (.if_icmp .ge 4, 3) := by decide +kernel
theorem dX9_tires_24 : decode cX9_tires 24 = .ok (.return_, 1) := by decide +kernel
theorem dX9_tires_25 : decode cX9_tires 25 = .ok (.aload_n 0, 1) := by decide +kernel
theorem dX9_tires_26 : decode cX9_tires 26 = .ok (.iload_n 1, 1) := by decide +kernel
theorem dX9_tires_27 : decode cX9_tires 27 = .ok (.iconst 4, 1) := by decide +kernel
theorem dX9_tires_28 : decode cX9_tires 28 = .ok (.iconst 0, 1) := by decide +kernel
theorem dX9_tires_29 : decode cX9_tires 29 = .ok (.invokevirtual 65, 3) := by decide +kernel
theorem dX9_tires_32 : decode cX9_tires 32 = .ok (.aload_n 0, 1) := by decide +kernel
theorem dX9_tires_33 : decode cX9_tires 33 = .ok (.iload_n 1, 1) := by decide +kernel
theorem dX9_tires_34 : decode cX9_tires 34 = .ok (.iconst 5, 1) := by decide +kernel
theorem dX9_tires_35 : decode cX9_tires 35 = .ok (.iconst 2, 1) := by decide +kernel
theorem dX9_tires_36 : decode cX9_tires 36 = .ok (.invokevirtual 65, 3) := by decide +kernel
theorem dX9_tires_39 : decode cX9_tires 39 = .ok (.return_, 1) := by decide +kernel
theorem dX9_logs_0 : decode cX9_logs 0 = .ok (.aload_n 0, 1) := by decide +kernel
theorem dX9_logs_1 : decode cX9_logs 1 = .ok (.getfield 13, 3) := by decide +kernel
theorem dX9_logs_4 : decode cX9_logs 4 = .ok (.bipush 7, 2) := by decide +kernel
theorem dX9_logs_6 : decode cX9_logs 6 = .ok (.iaload, 1) := by decide +kernel
theorem dX9_logs_7 : decode cX9_logs 7 = .ok (.bipush 10, 2) := by decide +kernel
theorem dX9_logs_9 : decode cX9_logs 9 = .ok (.if_icmp .ge 14, 3) := by decide +kernel
theorem dX9_logs_12 : decode cX9_logs 12 = .ok (.aload_n 0, 1) := by decide +kernel
theorem dX9_logs_13 : decode cX9_logs 13 = .ok (.getfield 13, 3) := by decide +kernel
theorem dX9_logs_16 : decode cX9_logs 16 = .ok (.bipush 7, 2) := by decide +kernel
theorem dX9_logs_18 : decode cX9_logs 18 = .ok (.dup2, 1) := by decide +kernel
theorem dX9_logs_19 : decode cX9_logs 19 = .ok (.iaload, 1) := by decide +kernel
theorem dX9_logs_20 : decode cX9_logs 20 = .ok (.iconst 1, 1) := by decide +kernel
theorem dX9_logs_21 : decode cX9_logs 21 = .ok (.iadd, 1) := by decide +kernel
theorem dX9_logs_22 : decode cX9_logs 22 = .ok (.iastore, 1) := by decide +kernel
theorem dX9_logs_23 : decode cX9_logs 23 = .ok (.aload_n 0, 1) := by decide +kernel
theorem dX9_logs_24 : decode cX9_logs 24 = .ok (.getfield 13, 3) := by decide +kernel
theorem dX9_logs_27 : decode cX9_logs 27 = .ok (.bipush 7, 2) := by decide +kernel
theorem dX9_logs_29 : decode cX9_logs 29 = .ok (.iaload, 1) := by decide +kernel
theorem dX9_logs_30 : decode cX9_logs 30 = .ok (.iconst 1, 1) := by decide +kernel
theorem dX9_logs_31 : decode cX9_logs 31 = .ok (.isub, 1) := by decide +kernel
theorem dX9_logs_32 : decode cX9_logs 32 = .ok (.istore_n 2, 1) := by decide +kernel
theorem dX9_logs_33 : decode cX9_logs 33 = .ok (.iload_n 2, 1) := by decide +kernel
theorem dX9_logs_34 : decode cX9_logs 34 = .ok (.ifCond .le 29, 3) := by decide +kernel
theorem dX9_logs_37 : decode cX9_logs 37 = .ok (.aload_n 0, 1) := by decide +kernel
theorem dX9_logs_38 : decode cX9_logs 38 = .ok (.getfield 13, 3) := by decide +kernel
theorem dX9_logs_41 : decode cX9_logs 41 = .ok (.bipush 8, 2) := by decide +kernel
theorem dX9_logs_43 : decode cX9_logs 43 = .ok (.iload_n 2, 1) := by decide +kernel
theorem dX9_logs_44 : decode cX9_logs 44 = .ok (.iadd, 1) := by decide +kernel
theorem dX9_logs_45 : decode cX9_logs 45 = .ok (.aload_n 0, 1) := by decide +kernel
theorem dX9_logs_46 : decode cX9_logs 46 = .ok (.getfield 13, 3) := by decide +kernel
theorem dX9_logs_49 : decode cX9_logs 49 = .ok (.bipush 8, 2) := by decide +kernel
theorem dX9_logs_51 : decode cX9_logs 51 = .ok (.iload_n 2, 1) := by decide +kernel
theorem dX9_logs_52 : decode cX9_logs 52 = .ok (.iadd, 1) := by decide +kernel
theorem dX9_logs_53 : decode cX9_logs 53 = .ok (.iconst 1, 1) := by decide +kernel
theorem dX9_logs_54 : decode cX9_logs 54 = .ok (.isub, 1) := by decide +kernel
theorem dX9_logs_55 : decode cX9_logs 55 = .ok (.iaload, 1) := by decide +kernel
theorem dX9_logs_56 : decode cX9_logs 56 = .ok (.iastore, 1) := by decide +kernel
theorem dX9_logs_57 : decode cX9_logs 57 = .ok (.iinc 2 (-1), 3) := by decide +kernel
theorem dX9_logs_60 : decode cX9_logs 60 = .ok (.goto (-27), 3) := by decide +kernel
theorem dX9_logs_63 : decode cX9_logs 63 = .ok (.aload_n 0, 1) := by decide +kernel
theorem dX9_logs_64 : decode cX9_logs 64 = .ok (.getfield 13, 3) := by decide +kernel
theorem dX9_logs_67 : decode cX9_logs 67 = .ok (.bipush 8, 2) := by decide +kernel
theorem dX9_logs_69 : decode cX9_logs 69 = .ok (.iload_n 1, 1) := by decide +kernel
theorem dX9_logs_70 : decode cX9_logs 70 = .ok (.iastore, 1) := by decide +kernel
theorem dX9_logs_71 : decode cX9_logs 71 = .ok (.iload_n 1, 1) := by decide +kernel
theorem dX9_logs_72 : decode cX9_logs 72 = .ok (.aload_n 0, 1) := by decide +kernel
theorem dX9_logs_73 : decode cX9_logs 73 = .ok (.getfield 13, 3) := by decide +kernel
theorem dX9_logs_76 : decode cX9_logs 76 = .ok (.bipush 6, 2) := by decide +kernel
theorem dX9_logs_78 : decode cX9_logs 78 = .ok (.iaload, 1) := by decide +kernel
theorem dX9_logs_79 : decode cX9_logs 79 = .ok (.if_icmp .le 11, 3) := by decide +kernel
theorem dX9_logs_82 : decode cX9_logs 82 = .ok (.aload_n 0, 1) := by decide +kernel
theorem dX9_logs_83 : decode cX9_logs 83 = .ok (.getfield 13, 3) := by decide +kernel
theorem dX9_logs_86 : decode cX9_logs 86 = .ok (.bipush 6, 2) := by decide +kernel
theorem dX9_logs_88 : decode cX9_logs 88 = .ok (.iload_n 1, 1) := by decide +kernel
theorem dX9_logs_89 : decode cX9_logs 89 = .ok (.iastore, 1) := by decide +kernel
theorem dX9_logs_90 : decode cX9_logs 90 = .ok (.return_, 1) := by decide +kernel
theorem dX9_beats_0 : decode cX9_beats 0 = .ok (.iconst 0, 1) := by decide +kernel
theorem dX9_beats_1 : decode cX9_beats 1 = .ok (.istore_n 1, 1) := by decide +kernel
theorem dX9_beats_2 : decode cX9_beats 2 = .ok (.iconst 0, 1) := by decide +kernel
theorem dX9_beats_3 : decode cX9_beats 3 = .ok (.istore_n 2, 1) := by decide +kernel
theorem dX9_beats_4 : decode cX9_beats 4 = .ok (.iconst (-1), 1) := by decide +kernel
theorem dX9_beats_5 : decode cX9_beats 5 = .ok (.istore_n 3, 1) := by decide +kernel
theorem dX9_beats_6 : decode cX9_beats 6 = .ok (.iconst 0, 1) := by decide +kernel
theorem dX9_beats_7 : decode cX9_beats 7 = .ok (.istore 4, 2) := by decide +kernel
theorem dX9_beats_9 : decode cX9_beats 9 = .ok (.iload 4, 2) := by decide +kernel
theorem dX9_beats_11 : decode cX9_beats 11 = .ok (.aload_n 0, 1) := by decide +kernel
theorem dX9_beats_12 : decode cX9_beats 12 = .ok (.getfield 13, 3) := by decide +kernel
theorem dX9_beats_15 : decode cX9_beats 15 = .ok (.iconst 0, 1) := by decide +kernel
theorem dX9_beats_16 : decode cX9_beats 16 = .ok (.iaload, 1) := by decide +kernel
theorem dX9_beats_17 : decode cX9_beats 17 = .ok (.if_icmp .ge 100, 3) := by decide +kernel
theorem dX9_beats_20 : decode cX9_beats 20 = .ok (.aload_n 0, 1) := by decide +kernel
theorem dX9_beats_21 : decode cX9_beats 21 = .ok (.iload 4, 2) := by decide +kernel
theorem dX9_beats_23 : decode cX9_beats 23 = .ok (.invokevirtual 153, 3) := by decide +kernel
theorem dX9_beats_26 : decode cX9_beats 26 = .ok (.istore 5, 2) := by decide +kernel
theorem dX9_beats_28 : decode cX9_beats 28 = .ok (.aload_n 0, 1) := by decide +kernel
theorem dX9_beats_29 : decode cX9_beats 29 = .ok (.iload 4, 2) := by decide +kernel
theorem dX9_beats_31 : decode cX9_beats 31 = .ok (.invokevirtual 147, 3) := by decide +kernel
theorem dX9_beats_34 : decode cX9_beats 34 = .ok (.ifCond .eq 15, 3) := by decide +kernel
theorem dX9_beats_37 : decode cX9_beats 37 = .ok (.aload_n 0, 1) := by decide +kernel
theorem dX9_beats_38 : decode cX9_beats 38 = .ok (.iload 4, 2) := by decide +kernel
theorem dX9_beats_40 : decode cX9_beats 40 = .ok (.aload_n 0, 1) := by decide +kernel
theorem dX9_beats_41 : decode cX9_beats 41 = .ok (.iload 4, 2) := by decide +kernel
theorem dX9_beats_43 : decode cX9_beats 43 = .ok (.invokevirtual 144, 3) := by decide +kernel
theorem dX9_beats_46 : decode cX9_beats 46 = .ok (.invokevirtual 156, 3) := by decide +kernel
theorem dX9_beats_49 : decode cX9_beats 49 = .ok (.aload_n 0, 1) := by decide +kernel
theorem dX9_beats_50 : decode cX9_beats 50 = .ok (.iload 4, 2) := by decide +kernel
theorem dX9_beats_52 : decode cX9_beats 52 = .ok (.iconst 5, 1) := by decide +kernel
theorem dX9_beats_53 : decode cX9_beats 53 = .ok (.invokevirtual 61, 3) := by decide +kernel
theorem dX9_beats_56 : decode cX9_beats 56 = .ok (.ifCond .le 19, 3) := by decide +kernel
theorem dX9_beats_59 : decode cX9_beats 59 = .ok (.aload_n 0, 1) := by decide +kernel
theorem dX9_beats_60 : decode cX9_beats 60 = .ok (.iload 4, 2) := by decide +kernel
theorem dX9_beats_62 : decode cX9_beats 62 = .ok (.iconst 5, 1) := by decide +kernel
theorem dX9_beats_63 : decode cX9_beats 63 = .ok (.aload_n 0, 1) := by decide +kernel
theorem dX9_beats_64 : decode cX9_beats 64 = .ok (.iload 4, 2) := by decide +kernel
theorem dX9_beats_66 : decode cX9_beats 66 = .ok (.iconst 5, 1) := by decide +kernel
theorem dX9_beats_67 : decode cX9_beats 67 = .ok (.invokevirtual 61, 3) := by decide +kernel
theorem dX9_beats_70 : decode cX9_beats 70 = .ok (.iconst 1, 1) := by decide +kernel
theorem dX9_beats_71 : decode cX9_beats 71 = .ok (.isub, 1) := by decide +kernel
theorem dX9_beats_72 : decode cX9_beats 72 = .ok (.invokevirtual 65, 3) := by decide +kernel
theorem dX9_beats_75 : decode cX9_beats 75 = .ok (.aload_n 0, 1) := by decide +kernel
theorem dX9_beats_76 : decode cX9_beats 76 = .ok (.iload 4, 2) := by decide +kernel
theorem dX9_beats_78 : decode cX9_beats 78 = .ok (.bipush 6, 2) := by decide +kernel
theorem dX9_beats_80 : decode cX9_beats 80 = .ok (.aload_n 0, 1) := by decide +kernel
theorem dX9_beats_81 : decode cX9_beats 81 = .ok (.iload 4, 2) := by decide +kernel
theorem dX9_beats_83 : decode cX9_beats 83 = .ok (.bipush 6, 2) := by decide +kernel
theorem dX9_beats_85 : decode cX9_beats 85 = .ok (.invokevirtual 61, 3) := by decide +kernel
theorem dX9_beats_88 : decode cX9_beats 88 = .ok (.iload 5, 2) := by decide +kernel
theorem dX9_beats_90 : decode cX9_beats 90 = .ok (.iadd, 1) := by decide +kernel
theorem dX9_beats_91 : decode cX9_beats 91 = .ok (.invokevirtual 65, 3) := by decide +kernel
theorem dX9_beats_94 : decode cX9_beats 94 = .ok (.iload_n 1, 1) := by decide +kernel
theorem dX9_beats_95 : decode cX9_beats 95 = .ok (.iload 5, 2) := by decide +kernel
theorem dX9_beats_97 : decode cX9_beats 97 = .ok (.iadd, 1) := by decide +kernel
theorem dX9_beats_98 : decode cX9_beats 98 = .ok (.istore_n 1, 1) := by decide +kernel
theorem dX9_beats_99 : decode cX9_beats 99 = .ok (.iload 5, 2) := by decide +kernel
theorem dX9_beats_101 : decode cX9_beats 101 = .ok (.iload_n 3, 1) := by decide +kernel
theorem dX9_beats_102 : decode cX9_beats 102 = .ok (.if_icmp .le 9, 3) := by decide +kernel
theorem dX9_beats_105 : decode cX9_beats 105 = .ok (.iload 5, 2) := by decide +kernel
theorem dX9_beats_107 : decode cX9_beats 107 = .ok (.istore_n 3, 1) := by decide +kernel
theorem dX9_beats_108 : decode cX9_beats 108 = .ok (.iload 4, 2) := by decide +kernel
theorem dX9_beats_110 : decode cX9_beats 110 = .ok (.istore_n 2, 1) := by decide +kernel
theorem dX9_beats_111 : decode cX9_beats 111 = .ok (.iinc 4 1, 3) := by decide +kernel
theorem dX9_beats_114 : decode cX9_beats 114 = .ok (.goto (-105), 3) := by decide +kernel
theorem dX9_beats_117 : decode cX9_beats 117 = .ok (.iload_n 1, 1) := by decide +kernel
theorem dX9_beats_118 : decode cX9_beats 118 = .ok (.aload_n 0, 1) := by decide +kernel
theorem dX9_beats_119 : decode cX9_beats 119 = .ok (.getfield 13, 3) := by decide +kernel
theorem dX9_beats_122 : decode cX9_beats 122 = .ok (.iconst 3, 1) := by decide +kernel
theorem dX9_beats_123 : decode cX9_beats 123 = .ok (.iaload, 1) := by decide +kernel
theorem dX9_beats_124 : decode cX9_beats 124 = .ok (.if_icmp .le 18, 3) := by decide +kernel
theorem dX9_beats_127 : decode cX9_beats 127 = .ok (.aload_n 0, 1) := by decide +kernel
theorem dX9_beats_128 : decode cX9_beats 128 = .ok (.getfield 13, 3) := by decide +kernel
theorem dX9_beats_131 : decode cX9_beats 131 = .ok (.iconst 4, 1) := by decide +kernel
theorem dX9_beats_132 : decode cX9_beats 132 = .ok (.dup2, 1) := by decide +kernel
theorem dX9_beats_133 : decode cX9_beats 133 = .ok (.iaload, 1) := by decide +kernel
theorem dX9_beats_134 : decode cX9_beats 134 = .ok (.iconst 1, 1) := by decide +kernel
theorem dX9_beats_135 : decode cX9_beats 135 = .ok (.iadd, 1) := by decide +kernel
theorem dX9_beats_136 : decode cX9_beats 136 = .ok (.iastore, 1) := by decide +kernel
theorem dX9_beats_137 : decode cX9_beats 137 = .ok (.aload_n 0, 1) := by decide +kernel
theorem dX9_beats_138 : decode cX9_beats 138 = .ok (.iload_n 2, 1) := by decide +kernel
theorem dX9_beats_139 : decode cX9_beats 139 = .ok (.invokevirtual 160, 3) := by decide +kernel
theorem dX9_beats_142 : decode cX9_beats 142 = .ok (.aload_n 0, 1) := by decide +kernel
theorem dX9_beats_143 : decode cX9_beats 143 = .ok (.getfield 13, 3) := by decide +kernel
theorem dX9_beats_146 : decode cX9_beats 146 = .ok (.iconst 1, 1) := by decide +kernel
theorem dX9_beats_147 : decode cX9_beats 147 = .ok (.dup2, 1) := by decide +kernel
theorem dX9_beats_148 : decode cX9_beats 148 = .ok (.iaload, 1) := by decide +kernel
theorem dX9_beats_149 : decode cX9_beats 149 = .ok (.iconst 1, 1) := by decide +kernel
theorem dX9_beats_150 : decode cX9_beats 150 = .ok (.iadd, 1) := by decide +kernel
theorem dX9_beats_151 : decode cX9_beats 151 = .ok (.iastore, 1) := by decide +kernel
theorem dX9_beats_152 : decode cX9_beats 152 = .ok (.aload_n 0, 1) := by decide +kernel
theorem dX9_beats_153 : decode cX9_beats 153 = .ok (.getfield 13, 3) := by decide +kernel
theorem dX9_beats_156 : decode cX9_beats 156 = .ok (.iconst 5, 1) := by decide +kernel
theorem dX9_beats_157 : decode cX9_beats 157 = .ok (.dup2, 1) := by decide +kernel
theorem dX9_beats_158 : decode cX9_beats 158 = .ok (.iaload, 1) := by decide +kernel
theorem dX9_beats_159 : decode cX9_beats 159 = .ok (.iload_n 1, 1) := by decide +kernel
theorem dX9_beats_160 : decode cX9_beats 160 = .ok (.iadd, 1) := by decide +kernel
theorem dX9_beats_161 : decode cX9_beats 161 = .ok (.iastore, 1) := by decide +kernel
theorem dX9_beats_162 : decode cX9_beats 162 = .ok (.aload_n 0, 1) := by decide +kernel
theorem dX9_beats_163 : decode cX9_beats 163 = .ok (.iload_n 1, 1) := by decide +kernel
theorem dX9_beats_164 : decode cX9_beats 164 = .ok (.invokevirtual 164, 3) := by decide +kernel
theorem dX9_beats_167 : decode cX9_beats 167 = .ok (.iload_n 1, 1) := by decide +kernel
theorem dX9_beats_168 : decode cX9_beats 168 = .ok (.ireturn, 1) := by decide +kernel
theorem dX9_beatsTimes_0 : decode cX9_beatsTimes 0 = .ok (.iconst 0, 1) := by decide +kernel
theorem dX9_beatsTimes_1 : decode cX9_beatsTimes 1 = .ok (.istore_n 2, 1) := by decide +kernel
theorem dX9_beatsTimes_2 : decode cX9_beatsTimes 2 = .ok (.iconst 0, 1) := by decide +kernel
theorem dX9_beatsTimes_3 : decode cX9_beatsTimes 3 = .ok (.istore_n 3, 1) := by decide +kernel
theorem dX9_beatsTimes_4 : decode cX9_beatsTimes 4 = .ok (.iload_n 3, 1) := by decide +kernel
theorem dX9_beatsTimes_5 : decode cX9_beatsTimes 5 = .ok (.iload_n 1, 1) := by decide +kernel
theorem dX9_beatsTimes_6 : decode cX9_beatsTimes 6 = .ok (.if_icmp .ge 16, 3) := by decide +kernel
theorem dX9_beatsTimes_9 : decode cX9_beatsTimes 9 = .ok (.iload_n 2, 1) := by decide +kernel
theorem dX9_beatsTimes_10 : decode cX9_beatsTimes 10 = .ok (.aload_n 0, 1) := by decide +kernel
theorem dX9_beatsTimes_11 : decode cX9_beatsTimes 11 = .ok (.invokevirtual 167, 3) := by decide +kernel
theorem dX9_beatsTimes_14 : decode cX9_beatsTimes 14 = .ok (.iadd, 1) := by decide +kernel
theorem dX9_beatsTimes_15 : decode cX9_beatsTimes 15 = .ok (.istore_n 2, 1) := by decide +kernel
theorem dX9_beatsTimes_16 : decode cX9_beatsTimes 16 = .ok (.iinc 3 1, 3) := by decide +kernel
theorem dX9_beatsTimes_19 : decode cX9_beatsTimes 19 = .ok (.goto (-15), 3) := by decide +kernel
theorem dX9_beatsTimes_22 : decode cX9_beatsTimes 22 = .ok (.iload_n 2, 1) := by decide +kernel
theorem dX9_beatsTimes_23 : decode cX9_beatsTimes 23 = .ok (.ireturn, 1) := by decide +kernel
theorem dX9_conductWave_0 : decode cX9_conductWave 0 = .ok (.aload_n 0, 1) := by decide +kernel
theorem dX9_conductWave_1 : decode cX9_conductWave 1 = .ok (.iconst 0, 1) := by decide +kernel
theorem dX9_conductWave_2 : decode cX9_conductWave 2 = .ok (.putfield 1, 3) := by decide +kernel
theorem dX9_conductWave_5 : decode cX9_conductWave 5 = .ok (.aload_n 0, 1) := by decide +kernel
theorem dX9_conductWave_6 : decode cX9_conductWave 6 = .ok (.invokevirtual 90, 3) := by decide +kernel
theorem dX9_conductWave_9 : decode cX9_conductWave 9 = .ok (.aload_n 0, 1) := by decide +kernel
theorem dX9_conductWave_10 : decode cX9_conductWave 10 = .ok (.aload_n 0, 1) := by decide +kernel
theorem dX9_conductWave_11 : decode cX9_conductWave 11 = .ok (.getfield 13, 3) := by decide +kernel
theorem dX9_conductWave_14 : decode cX9_conductWave 14 = .ok (.iconst 2, 1) := by decide +kernel
theorem dX9_conductWave_15 : decode cX9_conductWave 15 = .ok (.iaload, 1) := by decide +kernel
theorem dX9_conductWave_16 : decode cX9_conductWave 16 = .ok (.invokevirtual 171, 3) := by decide +kernel
theorem dX9_conductWave_19 : decode cX9_conductWave 19 = .ok (.ireturn, 1) := by decide +kernel
theorem dX9_notBeats_0 : decode cX9_notBeats 0 = .ok (.iload_n 0, 1) := by decide +kernel
theorem dX9_notBeats_1 : decode cX9_notBeats 1 = .ok (.iconst 1, 1) := by decide +kernel
theorem dX9_notBeats_2 : decode cX9_notBeats 2 = .ok (.bipush 40, 2) := by decide +kernel
theorem dX9_notBeats_4 : decode cX9_notBeats 4 = .ok (.invokestatic 57, 3) := by decide +kernel
theorem dX9_notBeats_7 : decode cX9_notBeats 7 = .ok (.ifCond .eq 7, 3) := by decide +kernel
theorem dX9_notBeats_10 : decode cX9_notBeats 10 = .ok (.iconst 0, 1) := by decide +kernel
theorem dX9_notBeats_11 : decode cX9_notBeats 11 = .ok (.goto 4, 3) := by decide +kernel
theorem dX9_notBeats_14 : decode cX9_notBeats 14 = .ok (.iconst 1, 1) := by decide +kernel
theorem dX9_notBeats_15 : decode cX9_notBeats 15 = .ok (.ireturn, 1) := by decide +kernel
theorem dX9_conductBeats_0 : decode cX9_conductBeats 0 = .ok (.aload_n 0, 1) := by decide +kernel
theorem dX9_conductBeats_1 : decode cX9_conductBeats 1 = .ok (.iconst 0, 1) := by decide +kernel
theorem dX9_conductBeats_2 : decode cX9_conductBeats 2 = .ok (.putfield 1, 3) := by decide +kernel
theorem dX9_conductBeats_5 : decode cX9_conductBeats 5 = .ok (.iload_n 1, 1) := by decide +kernel
theorem dX9_conductBeats_6 : decode cX9_conductBeats 6 = .ok (.invokestatic 174, 3) := by decide +kernel
theorem dX9_conductBeats_9 : decode cX9_conductBeats 9 = .ok (.ifCond .eq 9, 3) := by decide +kernel
theorem dX9_conductBeats_12 : decode cX9_conductBeats 12 = .ok (.aload_n 0, 1) := by decide +kernel
theorem dX9_conductBeats_13 : decode cX9_conductBeats 13 = .ok (.iconst 1, 1) := by decide +kernel
theorem dX9_conductBeats_14 : decode cX9_conductBeats 14 = .ok (.invokevirtual 87, 3) := by decide +kernel
theorem dX9_conductBeats_17 : decode cX9_conductBeats 17 = .ok (.ireturn, 1) := by decide +kernel
theorem dX9_conductBeats_18 : decode cX9_conductBeats 18 = .ok (.aload_n 0, 1) := by decide +kernel
theorem dX9_conductBeats_19 : decode cX9_conductBeats 19 = .ok (.invokevirtual 90, 3) := by decide +kernel
theorem dX9_conductBeats_22 : decode cX9_conductBeats 22 = .ok (.aload_n 0, 1) := by decide +kernel
theorem dX9_conductBeats_23 : decode cX9_conductBeats 23 = .ok (.iload_n 1, 1) := by decide +kernel
theorem dX9_conductBeats_24 : decode cX9_conductBeats 24 = .ok (.invokevirtual 171, 3) := by decide +kernel
theorem dX9_conductBeats_27 : decode cX9_conductBeats 27 = .ok (.ireturn, 1) := by decide +kernel
theorem dX9_asks_0 : decode cX9_asks 0 = .ok (.aload_n 0, 1) := by decide +kernel
theorem dX9_asks_1 : decode cX9_asks 1 = .ok (.iconst 0, 1) := by decide +kernel
theorem dX9_asks_2 : decode cX9_asks 2 = .ok (.putfield 1, 3) := by decide +kernel
theorem dX9_asks_5 : decode cX9_asks 5 = .ok (.aload_n 0, 1) := by decide +kernel
theorem dX9_asks_6 : decode cX9_asks 6 = .ok (.getfield 13, 3) := by decide +kernel
theorem dX9_asks_9 : decode cX9_asks 9 = .ok (.iload_n 1, 1) := by decide +kernel
theorem dX9_asks_10 : decode cX9_asks 10 = .ok (.iaload, 1) := by decide +kernel
theorem dX9_asks_11 : decode cX9_asks 11 = .ok (.ireturn, 1) := by decide +kernel
theorem dX9_beatCount_0 : decode cX9_beatCount 0 = .ok (.aload_n 0, 1) := by decide +kernel
theorem dX9_beatCount_1 : decode cX9_beatCount 1 = .ok (.iconst 1, 1) := by decide +kernel
theorem dX9_beatCount_2 : decode cX9_beatCount 2 = .ok (.invokevirtual 177, 3) := by decide +kernel
theorem dX9_beatCount_5 : decode cX9_beatCount 5 = .ok (.ireturn, 1) := by decide +kernel
theorem dX9_sectionCount_0 : decode cX9_sectionCount 0 = .ok (.aload_n 0, 1) := by decide +kernel
theorem dX9_sectionCount_1 : decode cX9_sectionCount 1 = .ok (.iconst 0, 1) := by decide +kernel
theorem dX9_sectionCount_2 : decode cX9_sectionCount 2 = .ok (.invokevirtual 177, 3) := by decide +kernel
theorem dX9_sectionCount_5 : decode cX9_sectionCount 5 = .ok (.ireturn, 1) := by decide +kernel
theorem dX9_tempo_0 : decode cX9_tempo 0 = .ok (.aload_n 0, 1) := by decide +kernel
theorem dX9_tempo_1 : decode cX9_tempo 1 = .ok (.iconst 2, 1) := by decide +kernel
theorem dX9_tempo_2 : decode cX9_tempo 2 = .ok (.invokevirtual 177, 3) := by decide +kernel
theorem dX9_tempo_5 : decode cX9_tempo 5 = .ok (.ireturn, 1) := by decide +kernel
theorem dX9_limit_0 : decode cX9_limit 0 = .ok (.aload_n 0, 1) := by decide +kernel
theorem dX9_limit_1 : decode cX9_limit 1 = .ok (.iconst 3, 1) := by decide +kernel
theorem dX9_limit_2 : decode cX9_limit 2 = .ok (.invokevirtual 177, 3) := by decide +kernel
theorem dX9_limit_5 : decode cX9_limit 5 = .ok (.ireturn, 1) := by decide +kernel
theorem dX9_asksSection_0 : decode cX9_asksSection 0 = .ok (.aload_n 0, 1) := by decide +kernel
theorem dX9_asksSection_1 : decode cX9_asksSection 1 = .ok (.iconst 0, 1) := by decide +kernel
theorem dX9_asksSection_2 : decode cX9_asksSection 2 = .ok (.putfield 1, 3) := by decide +kernel
theorem dX9_asksSection_5 : decode cX9_asksSection 5 = .ok (.aload_n 0, 1) := by decide +kernel
theorem dX9_asksSection_6 : decode cX9_asksSection 6 = .ok (.iload_n 1, 1) := by decide +kernel
theorem dX9_asksSection_7 : decode cX9_asksSection 7 = .ok (.invokevirtual 69, 3) := by decide +kernel
theorem dX9_asksSection_10 : decode cX9_asksSection 10 = .ok (.ifCond .eq 12, 3) := by decide +kernel
theorem dX9_asksSection_13 : decode cX9_asksSection 13 = .ok (.aload_n 0, 1) := by decide +kernel
theorem dX9_asksSection_14 : decode cX9_asksSection 14 = .ok (.iload_n 1, 1) := by decide +kernel
theorem dX9_asksSection_15 : decode cX9_asksSection 15 = .ok (.iload_n 2, 1) := by decide +kernel
theorem dX9_asksSection_16 : decode cX9_asksSection 16 = .ok (.invokevirtual 61, 3) := by decide +kernel
theorem dX9_asksSection_19 : decode cX9_asksSection 19 = .ok (.goto 8, 3) := by decide +kernel
theorem dX9_asksSection_22 : decode cX9_asksSection 22 = .ok (.aload_n 0, 1) := by decide +kernel
theorem dX9_asksSection_23 : decode cX9_asksSection 23 = .ok (.iconst 1, 1) := by decide +kernel
theorem dX9_asksSection_24 : decode cX9_asksSection 24 = .ok (.invokevirtual 87, 3) := by decide +kernel
theorem dX9_asksSection_27 : decode cX9_asksSection 27 = .ok (.ireturn, 1) := by decide +kernel
theorem dX9_kind_0 : decode cX9_kind 0 = .ok (.aload_n 0, 1) := by decide +kernel
theorem dX9_kind_1 : decode cX9_kind 1 = .ok (.iload_n 1, 1) := by decide +kernel
theorem dX9_kind_2 : decode cX9_kind 2 = .ok (.iconst 0, 1) := by decide +kernel
theorem dX9_kind_3 : decode cX9_kind 3 = .ok (.invokevirtual 180, 3) := by decide +kernel
theorem dX9_kind_6 : decode cX9_kind 6 = .ok (.istore_n 2, 1) := by decide +kernel
theorem dX9_kind_7 : decode cX9_kind 7 = .ok (.aload_n 0, 1) := by decide +kernel
theorem dX9_kind_8 : decode cX9_kind 8 = .ok (.getfield 1, 3) := by decide +kernel
theorem dX9_kind_11 : decode cX9_kind 11 = .ok (.ifCond .eq 5, 3) := by decide +kernel
theorem dX9_kind_14 : decode cX9_kind 14 = .ok (.iconst 0, 1) := by decide +kernel
theorem dX9_kind_15 : decode cX9_kind 15 = .ok (.ireturn, 1) := by decide +kernel
theorem dX9_kind_16 : decode cX9_kind 16 = .ok (.iload_n 2, 1) := by decide +kernel
theorem dX9_kind_17 : decode cX9_kind 17 = .ok (.invokestatic 183, 3) := by decide +kernel
theorem dX9_kind_20 : decode cX9_kind 20 = .ok (.ireturn, 1) := by decide +kernel
theorem dX9_rows_0 : decode cX9_rows 0 = .ok (.aload_n 0, 1) := by decide +kernel
theorem dX9_rows_1 : decode cX9_rows 1 = .ok (.iload_n 1, 1) := by decide +kernel
theorem dX9_rows_2 : decode cX9_rows 2 = .ok (.iconst 1, 1) := by decide +kernel
theorem dX9_rows_3 : decode cX9_rows 3 = .ok (.invokevirtual 180, 3) := by decide +kernel
theorem dX9_rows_6 : decode cX9_rows 6 = .ok (.ireturn, 1) := by decide +kernel
theorem dX9_columns_0 : decode cX9_columns 0 = .ok (.aload_n 0, 1) := by decide +kernel
theorem dX9_columns_1 : decode cX9_columns 1 = .ok (.iload_n 1, 1) := by decide +kernel
theorem dX9_columns_2 : decode cX9_columns 2 = .ok (.iconst 2, 1) := by decide +kernel
theorem dX9_columns_3 : decode cX9_columns 3 = .ok (.invokevirtual 180, 3) := by decide +kernel
theorem dX9_columns_6 : decode cX9_columns 6 = .ok (.ireturn, 1) := by decide +kernel
theorem dX9_note_0 : decode cX9_note 0 = .ok (.aload_n 0, 1) := by decide +kernel
theorem dX9_note_1 : decode cX9_note 1 = .ok (.iconst 0, 1) := by decide +kernel
theorem dX9_note_2 : decode cX9_note 2 = .ok (.putfield 1, 3) := by decide +kernel
theorem dX9_note_5 : decode cX9_note 5 = .ok (.aload_n 0, 1) := by decide +kernel
theorem dX9_note_6 : decode cX9_note 6 = .ok (.iload_n 1, 1) := by decide +kernel
theorem dX9_note_7 : decode cX9_note 7 = .ok (.iload_n 2, 1) := by decide +kernel
theorem dX9_note_8 : decode cX9_note 8 = .ok (.iload_n 3, 1) := by decide +kernel
theorem dX9_note_9 : decode cX9_note 9 = .ok (.invokevirtual 99, 3) := by decide +kernel
theorem dX9_note_12 : decode cX9_note 12 = .ok (.ifCond .eq 13, 3) := by decide +kernel
theorem dX9_note_15 : decode cX9_note 15 = .ok (.aload_n 0, 1) := by decide +kernel
theorem dX9_note_16 : decode cX9_note 16 = .ok (.iload_n 1, 1) := by decide +kernel
theorem dX9_note_17 : decode cX9_note 17 = .ok (.iload_n 2, 1) := by decide +kernel
theorem dX9_note_18 : decode cX9_note 18 = .ok (.iload_n 3, 1) := by decide +kernel
theorem dX9_note_19 : decode cX9_note 19 = .ok (.invokevirtual 73, 3) := by decide +kernel
theorem dX9_note_22 : decode cX9_note 22 = .ok (.goto 8, 3) := by decide +kernel
theorem dX9_note_25 : decode cX9_note 25 = .ok (.aload_n 0, 1) := by decide +kernel
theorem dX9_note_26 : decode cX9_note 26 = .ok (.iconst 1, 1) := by decide +kernel
theorem dX9_note_27 : decode cX9_note 27 = .ok (.invokevirtual 87, 3) := by decide +kernel
theorem dX9_note_30 : decode cX9_note 30 = .ok (.ireturn, 1) := by decide +kernel
theorem dX9_isMasked_0 : decode cX9_isMasked 0 = .ok (.aload_n 0, 1) := by decide +kernel
theorem dX9_isMasked_1 : decode cX9_isMasked 1 = .ok (.iconst 0, 1) := by decide +kernel
theorem dX9_isMasked_2 : decode cX9_isMasked 2 = .ok (.putfield 1, 3) := by decide +kernel
theorem dX9_isMasked_5 : decode cX9_isMasked 5 = .ok (.aload_n 0, 1) := by decide +kernel
theorem dX9_isMasked_6 : decode cX9_isMasked 6 = .ok (.iload_n 1, 1) := by decide +kernel
theorem dX9_isMasked_7 : decode cX9_isMasked 7 = .ok (.iload_n 2, 1) := by decide +kernel
theorem dX9_isMasked_8 : decode cX9_isMasked 8 = .ok (.invokevirtual 117, 3) := by decide +kernel
theorem dX9_isMasked_11 : decode cX9_isMasked 11 = .ok (.istore_n 3, 1) := by decide +kernel
theorem dX9_isMasked_12 : decode cX9_isMasked 12 = .ok (.iload_n 3, 1) := by decide +kernel
theorem dX9_isMasked_13 : decode cX9_isMasked 13 = .ok (.ifCond .eq 17, 3) := by decide +kernel
theorem dX9_isMasked_16 : decode cX9_isMasked 16 = .ok (.aload_n 0, 1) := by decide +kernel
theorem dX9_isMasked_17 : decode cX9_isMasked 17 = .ok (.iload_n 3, 1) := by decide +kernel
theorem dX9_isMasked_18 : decode cX9_isMasked 18 = .ok (.invokevirtual 87, 3) := by decide +kernel
theorem dX9_isMasked_21 : decode cX9_isMasked 21 = .ok (.ifCond .le 7, 3) := by decide +kernel
theorem dX9_isMasked_24 : decode cX9_isMasked 24 = .ok (.iconst 1, 1) := by decide +kernel
theorem dX9_isMasked_25 : decode cX9_isMasked 25 = .ok (.goto 4, 3) := by decide +kernel
theorem dX9_isMasked_28 : decode cX9_isMasked 28 = .ok (.iconst 0, 1) := by decide +kernel
theorem dX9_isMasked_29 : decode cX9_isMasked 29 = .ok (.ireturn, 1) := by decide +kernel
theorem dX9_isMasked_30 : decode cX9_isMasked 30 = .ok (.aload_n 0, 1) := by decide +kernel
theorem dX9_isMasked_31 : decode cX9_isMasked 31 = .ok (.iload_n 1, 1) := by decide +kernel
theorem dX9_isMasked_32 : decode cX9_isMasked 32 = .ok (.iload_n 2, 1) := by decide +kernel
theorem dX9_isMasked_33 : decode cX9_isMasked 33 = .ok (.invokevirtual 113, 3) := by decide +kernel
theorem dX9_isMasked_36 : decode cX9_isMasked 36 = .ok (.ireturn, 1) := by decide +kernel
theorem dX9_fatigue_0 : decode cX9_fatigue 0 = .ok (.aload_n 0, 1) := by decide +kernel
theorem dX9_fatigue_1 : decode cX9_fatigue 1 = .ok (.iload_n 1, 1) := by decide +kernel
theorem dX9_fatigue_2 : decode cX9_fatigue 2 = .ok (.iconst 4, 1) := by decide +kernel
theorem dX9_fatigue_3 : decode cX9_fatigue 3 = .ok (.invokevirtual 180, 3) := by decide +kernel
theorem dX9_fatigue_6 : decode cX9_fatigue 6 = .ok (.ireturn, 1) := by decide +kernel
theorem dX9_restingBeats_0 : decode cX9_restingBeats 0 = .ok (.aload_n 0, 1) := by decide +kernel
theorem dX9_restingBeats_1 : decode cX9_restingBeats 1 = .ok (.iload_n 1, 1) := by decide +kernel
theorem dX9_restingBeats_2 : decode cX9_restingBeats 2 = .ok (.iconst 5, 1) := by decide +kernel
theorem dX9_restingBeats_3 : decode cX9_restingBeats 3 = .ok (.invokevirtual 180, 3) := by decide +kernel
theorem dX9_restingBeats_6 : decode cX9_restingBeats 6 = .ok (.ireturn, 1) := by decide +kernel
theorem dX9_isSymmetric_0 : decode cX9_isSymmetric 0 = .ok (.aload_n 0, 1) := by decide +kernel
theorem dX9_isSymmetric_1 : decode cX9_isSymmetric 1 = .ok (.iconst 0, 1) := by decide +kernel
theorem dX9_isSymmetric_2 : decode cX9_isSymmetric 2 = .ok (.putfield 1, 3) := by decide +kernel
theorem dX9_isSymmetric_5 : decode cX9_isSymmetric 5 = .ok (.aload_n 0, 1) := by decide +kernel
theorem dX9_isSymmetric_6 : decode cX9_isSymmetric 6 = .ok (.iload_n 1, 1) := by decide +kernel
theorem dX9_isSymmetric_7 : decode cX9_isSymmetric 7 = .ok (.invokevirtual 69, 3) := by decide +kernel
theorem dX9_isSymmetric_10 : decode cX9_isSymmetric 10 = .ok (.ifCond .ne 17, 3) := by decide +kernel
theorem dX9_isSymmetric_13 : decode cX9_isSymmetric 13 = .ok (.aload_n 0, 1) := by decide +kernel
theorem dX9_isSymmetric_14 : decode cX9_isSymmetric 14 = .ok (.iconst 1, 1) := by decide +kernel
theorem dX9_isSymmetric_15 : decode cX9_isSymmetric 15 = .ok (.invokevirtual 87, 3) := by decide +kernel
theorem dX9_isSymmetric_18 : decode cX9_isSymmetric 18 = .ok (.ifCond .le 7, 3) := by decide +kernel
theorem dX9_isSymmetric_21 : decode cX9_isSymmetric 21 = .ok (.iconst 1, 1) := by decide +kernel
theorem dX9_isSymmetric_22 : decode cX9_isSymmetric 22 = .ok (.goto 4, 3) := by decide +kernel
theorem dX9_isSymmetric_25 : decode cX9_isSymmetric 25 = .ok (.iconst 0, 1) := by decide +kernel
theorem dX9_isSymmetric_26 : decode cX9_isSymmetric 26 = .ok (.ireturn, 1) := by decide +kernel
theorem dX9_isSymmetric_27 : decode cX9_isSymmetric 27 = .ok (.aload_n 0, 1) := by decide +kernel
theorem dX9_isSymmetric_28 : decode cX9_isSymmetric 28 = .ok (.iload_n 1, 1) := by decide +kernel
theorem dX9_isSymmetric_29 : decode cX9_isSymmetric 29 = .ok (.iconst 1, 1) := by decide +kernel
theorem dX9_isSymmetric_30 : decode cX9_isSymmetric 30 = .ok (.invokevirtual 61, 3) := by decide +kernel
theorem dX9_isSymmetric_33 : decode cX9_isSymmetric 33 = .ok (.aload_n 0, 1) := by decide +kernel
theorem dX9_isSymmetric_34 : decode cX9_isSymmetric 34 = .ok (.iload_n 1, 1) := by decide +kernel
theorem dX9_isSymmetric_35 : decode cX9_isSymmetric 35 = .ok (.iconst 2, 1) := by decide +kernel
theorem dX9_isSymmetric_36 : decode cX9_isSymmetric 36 = .ok (.invokevirtual 61, 3) := by decide +kernel
theorem dX9_isSymmetric_39 : decode cX9_isSymmetric 39 = .ok (.if_icmp .eq 5, 3) := by decide +kernel
theorem dX9_isSymmetric_42 : decode cX9_isSymmetric 42 = .ok (.iconst 0, 1) := by decide +kernel
theorem dX9_isSymmetric_43 : decode cX9_isSymmetric 43 = .ok (.ireturn, 1) := by decide +kernel
theorem dX9_isSymmetric_44 : decode cX9_isSymmetric 44 = .ok (.iconst 0, 1) := by decide +kernel
theorem dX9_isSymmetric_45 : decode cX9_isSymmetric 45 = .ok (.istore_n 2, 1) := by decide +kernel
theorem dX9_isSymmetric_46 : decode cX9_isSymmetric 46 = .ok (.iload_n 2, 1) := by decide +kernel
theorem dX9_isSymmetric_47 : decode cX9_isSymmetric 47 = .ok (.aload_n 0, 1) := by decide +kernel
theorem dX9_isSymmetric_48 : decode cX9_isSymmetric 48 = .ok (.iload_n 1, 1) := by decide +kernel
theorem dX9_isSymmetric_49 : decode cX9_isSymmetric 49 = .ok (.iconst 1, 1) := by decide +kernel
theorem dX9_isSymmetric_50 : decode cX9_isSymmetric 50 = .ok (.invokevirtual 61, 3) := by decide +kernel
theorem dX9_isSymmetric_53 : decode cX9_isSymmetric 53 = .ok (.if_icmp .ge 41, 3) := by decide +kernel
theorem dX9_isSymmetric_56 : decode cX9_isSymmetric 56 = .ok (.iconst 0, 1) := by decide +kernel
theorem dX9_isSymmetric_57 : decode cX9_isSymmetric 57 = .ok (.istore_n 3, 1) := by decide +kernel
theorem dX9_isSymmetric_58 : decode cX9_isSymmetric 58 = .ok (.iload_n 3, 1) := by decide +kernel
theorem dX9_isSymmetric_59 : decode cX9_isSymmetric 59 = .ok (.iload_n 2, 1) := by decide +kernel
theorem dX9_isSymmetric_60 : decode cX9_isSymmetric 60 = .ok (.if_icmp .ge 28, 3) := by decide +kernel
theorem dX9_isSymmetric_63 : decode cX9_isSymmetric 63 = .ok (.aload_n 0, 1) := by decide +kernel
theorem dX9_isSymmetric_64 : decode cX9_isSymmetric 64 = .ok (.iload_n 1, 1) := by decide +kernel
theorem dX9_isSymmetric_65 : decode cX9_isSymmetric 65 = .ok (.iload_n 2, 1) := by decide +kernel
theorem dX9_isSymmetric_66 : decode cX9_isSymmetric 66 = .ok (.iload_n 3, 1) := by decide +kernel
theorem dX9_isSymmetric_67 : decode cX9_isSymmetric 67 = .ok (.invokevirtual 73, 3) := by decide +kernel
theorem dX9_isSymmetric_70 : decode cX9_isSymmetric 70 = .ok (.aload_n 0, 1) := by decide +kernel
theorem dX9_isSymmetric_71 : decode cX9_isSymmetric 71 = .ok (.iload_n 1, 1) := by decide +kernel
theorem dX9_isSymmetric_72 : decode cX9_isSymmetric 72 = .ok (.iload_n 3, 1) := by decide +kernel
theorem dX9_isSymmetric_73 : decode cX9_isSymmetric 73 = .ok (.iload_n 2, 1) := by decide +kernel
theorem dX9_isSymmetric_74 : decode cX9_isSymmetric 74 = .ok (.invokevirtual 73, 3) := by decide +kernel
theorem dX9_isSymmetric_77 : decode cX9_isSymmetric 77 = .ok (.if_icmp .eq 5, 3) := by decide +kernel
theorem dX9_isSymmetric_80 : decode cX9_isSymmetric 80 = .ok (.iconst 0, 1) := by decide +kernel
theorem dX9_isSymmetric_81 : decode cX9_isSymmetric 81 = .ok (.ireturn, 1) := by decide +kernel
theorem dX9_isSymmetric_82 : decode cX9_isSymmetric 82 = .ok (.iinc 3 1, 3) := by decide +kernel
theorem dX9_isSymmetric_85 : decode cX9_isSymmetric 85 = .ok (.goto (-27), 3) := by decide +kernel
theorem dX9_isSymmetric_88 : decode cX9_isSymmetric 88 = .ok (.iinc 2 1, 3) := by decide +kernel
theorem dX9_isSymmetric_91 : decode cX9_isSymmetric 91 = .ok (.goto (-45), 3) := by decide +kernel
theorem dX9_isSymmetric_94 : decode cX9_isSymmetric 94 = .ok (.iconst 1, 1) := by decide +kernel
theorem dX9_isSymmetric_95 : decode cX9_isSymmetric 95 = .ok (.ireturn, 1) := by decide +kernel
theorem dX9_areAlike_0 : decode cX9_areAlike 0 = .ok (.aload_n 0, 1) := by decide +kernel
theorem dX9_areAlike_1 : decode cX9_areAlike 1 = .ok (.iconst 0, 1) := by decide +kernel
theorem dX9_areAlike_2 : decode cX9_areAlike 2 = .ok (.putfield 1, 3) := by decide +kernel
theorem dX9_areAlike_5 : decode cX9_areAlike 5 = .ok (.aload_n 0, 1) := by decide +kernel
theorem dX9_areAlike_6 : decode cX9_areAlike 6 = .ok (.iload_n 1, 1) := by decide +kernel
theorem dX9_areAlike_7 : decode cX9_areAlike 7 = .ok (.invokevirtual 69, 3) := by decide +kernel
theorem dX9_areAlike_10 : decode cX9_areAlike 10 = .ok (.ifCond .eq 11, 3) := by decide +kernel
theorem dX9_areAlike_13 : decode cX9_areAlike 13 = .ok (.aload_n 0, 1) := by decide +kernel
theorem dX9_areAlike_14 : decode cX9_areAlike 14 = .ok (.iload_n 2, 1) := by decide +kernel
theorem dX9_areAlike_15 : decode cX9_areAlike 15 = .ok (.invokevirtual 69, 3) := by decide +kernel
theorem dX9_areAlike_18 : decode cX9_areAlike 18 = .ok (.ifCond .ne 17, 3) := by decide +kernel
theorem dX9_areAlike_21 : decode cX9_areAlike 21 = .ok (.aload_n 0, 1) := by decide +kernel
theorem dX9_areAlike_22 : decode cX9_areAlike 22 = .ok (.iconst 1, 1) := by decide +kernel
theorem dX9_areAlike_23 : decode cX9_areAlike 23 = .ok (.invokevirtual 87, 3) := by decide +kernel
theorem dX9_areAlike_26 : decode cX9_areAlike 26 = .ok (.ifCond .le 7, 3) := by decide +kernel
theorem dX9_areAlike_29 : decode cX9_areAlike 29 = .ok (.iconst 1, 1) := by decide +kernel
theorem dX9_areAlike_30 : decode cX9_areAlike 30 = .ok (.goto 4, 3) := by decide +kernel
theorem dX9_areAlike_33 : decode cX9_areAlike 33 = .ok (.iconst 0, 1) := by decide +kernel
theorem dX9_areAlike_34 : decode cX9_areAlike 34 = .ok (.ireturn, 1) := by decide +kernel
theorem dX9_areAlike_35 : decode cX9_areAlike 35 = .ok (.aload_n 0, 1) := by decide +kernel
theorem dX9_areAlike_36 : decode cX9_areAlike 36 = .ok (.iload_n 1, 1) := by decide +kernel
theorem dX9_areAlike_37 : decode cX9_areAlike 37 = .ok (.iconst 1, 1) := by decide +kernel
theorem dX9_areAlike_38 : decode cX9_areAlike 38 = .ok (.invokevirtual 61, 3) := by decide +kernel
theorem dX9_areAlike_41 : decode cX9_areAlike 41 = .ok (.aload_n 0, 1) := by decide +kernel
theorem dX9_areAlike_42 : decode cX9_areAlike 42 = .ok (.iload_n 2, 1) := by decide +kernel
theorem dX9_areAlike_43 : decode cX9_areAlike 43 = .ok (.iconst 1, 1) := by decide +kernel
theorem dX9_areAlike_44 : decode cX9_areAlike 44 = .ok (.invokevirtual 61, 3) := by decide +kernel
theorem dX9_areAlike_47 : decode cX9_areAlike 47 = .ok (.if_icmp .ne 18, 3) := by decide +kernel
theorem dX9_areAlike_50 : decode cX9_areAlike 50 = .ok (.aload_n 0, 1) := by decide +kernel
theorem dX9_areAlike_51 : decode cX9_areAlike 51 = .ok (.iload_n 1, 1) := by decide +kernel
theorem dX9_areAlike_52 : decode cX9_areAlike 52 = .ok (.iconst 2, 1) := by decide +kernel
theorem dX9_areAlike_53 : decode cX9_areAlike 53 = .ok (.invokevirtual 61, 3) := by decide +kernel
theorem dX9_areAlike_56 : decode cX9_areAlike 56 = .ok (.aload_n 0, 1) := by decide +kernel
theorem dX9_areAlike_57 : decode cX9_areAlike 57 = .ok (.iload_n 2, 1) := by decide +kernel
theorem dX9_areAlike_58 : decode cX9_areAlike 58 = .ok (.iconst 2, 1) := by decide +kernel
theorem dX9_areAlike_59 : decode cX9_areAlike 59 = .ok (.invokevirtual 61, 3) := by decide +kernel
theorem dX9_areAlike_62 : decode cX9_areAlike 62 = .ok (.if_icmp .eq 5, 3) := by decide +kernel
theorem dX9_areAlike_65 : decode cX9_areAlike 65 = .ok (.iconst 0, 1) := by decide +kernel
theorem dX9_areAlike_66 : decode cX9_areAlike 66 = .ok (.ireturn, 1) := by decide +kernel
theorem dX9_areAlike_67 : decode cX9_areAlike 67 = .ok (.bipush 7, 2) := by decide +kernel
theorem dX9_areAlike_69 : decode cX9_areAlike 69 = .ok (.istore_n 3, 1) := by decide +kernel
theorem dX9_areAlike_70 : decode cX9_areAlike 70 = .ok (.iload_n 3, 1) := by decide +kernel
theorem dX9_areAlike_71 : decode cX9_areAlike 71 = .ok (.bipush 43, 2) := by decide +kernel
theorem dX9_areAlike_73 : decode cX9_areAlike 73 = .ok (.if_icmp .ge 26, 3) := by decide +kernel
theorem dX9_areAlike_76 : decode cX9_areAlike 76 = .ok (.aload_n 0, 1) := by decide +kernel
theorem dX9_areAlike_77 : decode cX9_areAlike 77 = .ok (.iload_n 1, 1) := by decide +kernel
theorem dX9_areAlike_78 : decode cX9_areAlike 78 = .ok (.iload_n 3, 1) := by decide +kernel
theorem dX9_areAlike_79 : decode cX9_areAlike 79 = .ok (.invokevirtual 61, 3) := by decide +kernel
theorem dX9_areAlike_82 : decode cX9_areAlike 82 = .ok (.aload_n 0, 1) := by decide +kernel
theorem dX9_areAlike_83 : decode cX9_areAlike 83 = .ok (.iload_n 2, 1) := by decide +kernel
theorem dX9_areAlike_84 : decode cX9_areAlike 84 = .ok (.iload_n 3, 1) := by decide +kernel
theorem dX9_areAlike_85 : decode cX9_areAlike 85 = .ok (.invokevirtual 61, 3) := by decide +kernel
theorem dX9_areAlike_88 : decode cX9_areAlike 88 = .ok (.if_icmp .eq 5, 3) := by decide +kernel
theorem dX9_areAlike_91 : decode cX9_areAlike 91 = .ok (.iconst 0, 1) := by decide +kernel
theorem dX9_areAlike_92 : decode cX9_areAlike 92 = .ok (.ireturn, 1) := by decide +kernel
theorem dX9_areAlike_93 : decode cX9_areAlike 93 = .ok (.iinc 3 1, 3) := by decide +kernel
theorem dX9_areAlike_96 : decode cX9_areAlike 96 = .ok (.goto (-26), 3) := by decide +kernel
theorem dX9_areAlike_99 : decode cX9_areAlike 99 = .ok (.iconst 1, 1) := by decide +kernel
theorem dX9_areAlike_100 : decode cX9_areAlike 100 = .ok (.ireturn, 1) := by decide +kernel
theorem dX9_noteVolume_0 : decode cX9_noteVolume 0 = .ok (.aload_n 0, 1) := by decide +kernel
theorem dX9_noteVolume_1 : decode cX9_noteVolume 1 = .ok (.iconst 0, 1) := by decide +kernel
theorem dX9_noteVolume_2 : decode cX9_noteVolume 2 = .ok (.putfield 1, 3) := by decide +kernel
theorem dX9_noteVolume_5 : decode cX9_noteVolume 5 = .ok (.iload_n 1, 1) := by decide +kernel
theorem dX9_noteVolume_6 : decode cX9_noteVolume 6 = .ok (.invokestatic 80, 3) := by decide +kernel
theorem dX9_noteVolume_9 : decode cX9_noteVolume 9 = .ok (.ifCond .lt 13, 3) := by decide +kernel
theorem dX9_noteVolume_12 : decode cX9_noteVolume 12 = .ok (.iload_n 2, 1) := by decide +kernel
theorem dX9_noteVolume_13 : decode cX9_noteVolume 13 = .ok (.iconst 0, 1) := by decide +kernel
theorem dX9_noteVolume_14 : decode cX9_noteVolume 14 = .ok (.bipush 9, 2) := by decide +kernel
theorem dX9_noteVolume_16 : decode cX9_noteVolume 16 = .ok (.invokestatic 57, 3) := by decide +kernel
theorem dX9_noteVolume_19 : decode cX9_noteVolume 19 = .ok (.ifCond .ne 11, 3) := by decide +kernel
theorem dX9_noteVolume_22 : decode cX9_noteVolume 22 = .ok (.aload_n 0, 1) := by decide +kernel
theorem dX9_noteVolume_23 : decode cX9_noteVolume 23 = .ok (.iconst 1, 1) := by decide +kernel
theorem dX9_noteVolume_24 : decode cX9_noteVolume 24 = .ok (.invokevirtual 87, 3) := by decide +kernel
theorem dX9_noteVolume_27 : decode cX9_noteVolume 27 = .ok (.goto 11, 3) := by decide +kernel
theorem dX9_noteVolume_30 : decode cX9_noteVolume 30 = .ok (.iload_n 1, 1) := by decide +kernel
theorem dX9_noteVolume_31 : decode cX9_noteVolume 31 = .ok (.invokestatic 80, 3) := by decide +kernel
theorem dX9_noteVolume_34 : decode cX9_noteVolume 34 = .ok (.iload_n 2, 1) := by decide +kernel
theorem dX9_noteVolume_35 : decode cX9_noteVolume 35 = .ok (.invokestatic 77, 3) := by decide +kernel
theorem dX9_noteVolume_38 : decode cX9_noteVolume 38 = .ok (.ireturn, 1) := by decide +kernel
theorem dX9_columnVolume_0 : decode cX9_columnVolume 0 = .ok (.aload_n 0, 1) := by decide +kernel
theorem dX9_columnVolume_1 : decode cX9_columnVolume 1 = .ok (.iconst 0, 1) := by decide +kernel
theorem dX9_columnVolume_2 : decode cX9_columnVolume 2 = .ok (.putfield 1, 3) := by decide +kernel
theorem dX9_columnVolume_5 : decode cX9_columnVolume 5 = .ok (.aload_n 0, 1) := by decide +kernel
theorem dX9_columnVolume_6 : decode cX9_columnVolume 6 = .ok (.iload_n 1, 1) := by decide +kernel
theorem dX9_columnVolume_7 : decode cX9_columnVolume 7 = .ok (.iconst 0, 1) := by decide +kernel
theorem dX9_columnVolume_8 : decode cX9_columnVolume 8 = .ok (.iload_n 2, 1) := by decide +kernel
theorem dX9_columnVolume_9 : decode cX9_columnVolume 9 = .ok (.invokevirtual 99, 3) := by decide +kernel
theorem dX9_columnVolume_12 : decode cX9_columnVolume 12 = .ok (.ifCond .eq 12, 3) := by decide +kernel
theorem dX9_columnVolume_15 : decode cX9_columnVolume 15 = .ok (.aload_n 0, 1) := by decide +kernel
theorem dX9_columnVolume_16 : decode cX9_columnVolume 16 = .ok (.iload_n 1, 1) := by decide +kernel
theorem dX9_columnVolume_17 : decode cX9_columnVolume 17 = .ok (.iload_n 2, 1) := by decide +kernel
theorem dX9_columnVolume_18 : decode cX9_columnVolume 18 = .ok (.invokevirtual 150, 3) := by decide +kernel
theorem dX9_columnVolume_21 : decode cX9_columnVolume 21 = .ok (.goto 8, 3) := by decide +kernel
theorem dX9_columnVolume_24 : decode cX9_columnVolume 24 = .ok (.aload_n 0, 1) := by decide +kernel
theorem dX9_columnVolume_25 : decode cX9_columnVolume 25 = .ok (.iconst 1, 1) := by decide +kernel
theorem dX9_columnVolume_26 : decode cX9_columnVolume 26 = .ok (.invokevirtual 87, 3) := by decide +kernel
theorem dX9_columnVolume_29 : decode cX9_columnVolume 29 = .ok (.ireturn, 1) := by decide +kernel
theorem dX9_columnVolumeByTransposing_0 : decode cX9_columnVolumeByTransposing 0 = .ok (.aload_n 0, 1) := by decide +kernel
theorem dX9_columnVolumeByTransposing_1 : decode cX9_columnVolumeByTransposing 1 = .ok (.iload_n 1, 1) := by decide +kernel
theorem dX9_columnVolumeByTransposing_2 : decode cX9_columnVolumeByTransposing 2 = .ok (.iload_n 2, 1) := by decide +kernel
theorem dX9_columnVolumeByTransposing_3 : decode cX9_columnVolumeByTransposing 3 = .ok (.invokevirtual 187, 3) := by decide +kernel
theorem dX9_columnVolumeByTransposing_6 : decode cX9_columnVolumeByTransposing 6 = .ok (.ireturn, 1) := by decide +kernel
theorem dX9_nextVolume_0 : decode cX9_nextVolume 0 = .ok (.aload_n 0, 1) := by decide +kernel
theorem dX9_nextVolume_1 : decode cX9_nextVolume 1 = .ok (.iconst 0, 1) := by decide +kernel
theorem dX9_nextVolume_2 : decode cX9_nextVolume 2 = .ok (.putfield 1, 3) := by decide +kernel
theorem dX9_nextVolume_5 : decode cX9_nextVolume 5 = .ok (.aload_n 0, 1) := by decide +kernel
theorem dX9_nextVolume_6 : decode cX9_nextVolume 6 = .ok (.iload_n 1, 1) := by decide +kernel
theorem dX9_nextVolume_7 : decode cX9_nextVolume 7 = .ok (.invokevirtual 69, 3) := by decide +kernel
theorem dX9_nextVolume_10 : decode cX9_nextVolume 10 = .ok (.ifCond .eq 11, 3) := by decide +kernel
theorem dX9_nextVolume_13 : decode cX9_nextVolume 13 = .ok (.aload_n 0, 1) := by decide +kernel
theorem dX9_nextVolume_14 : decode cX9_nextVolume 14 = .ok (.iload_n 1, 1) := by decide +kernel
theorem dX9_nextVolume_15 : decode cX9_nextVolume 15 = .ok (.invokevirtual 153, 3) := by decide +kernel
theorem dX9_nextVolume_18 : decode cX9_nextVolume 18 = .ok (.goto 8, 3) := by decide +kernel
theorem dX9_nextVolume_21 : decode cX9_nextVolume 21 = .ok (.aload_n 0, 1) := by decide +kernel
theorem dX9_nextVolume_22 : decode cX9_nextVolume 22 = .ok (.iconst 1, 1) := by decide +kernel
theorem dX9_nextVolume_23 : decode cX9_nextVolume 23 = .ok (.invokevirtual 87, 3) := by decide +kernel
theorem dX9_nextVolume_26 : decode cX9_nextVolume 26 = .ok (.ireturn, 1) := by decide +kernel
theorem dX9_nextTotal_0 : decode cX9_nextTotal 0 = .ok (.aload_n 0, 1) := by decide +kernel
theorem dX9_nextTotal_1 : decode cX9_nextTotal 1 = .ok (.iconst 0, 1) := by decide +kernel
theorem dX9_nextTotal_2 : decode cX9_nextTotal 2 = .ok (.putfield 1, 3) := by decide +kernel
theorem dX9_nextTotal_5 : decode cX9_nextTotal 5 = .ok (.iconst 0, 1) := by decide +kernel
theorem dX9_nextTotal_6 : decode cX9_nextTotal 6 = .ok (.istore_n 1, 1) := by decide +kernel
theorem dX9_nextTotal_7 : decode cX9_nextTotal 7 = .ok (.iconst 0, 1) := by decide +kernel
theorem dX9_nextTotal_8 : decode cX9_nextTotal 8 = .ok (.istore_n 2, 1) := by decide +kernel
theorem dX9_nextTotal_9 : decode cX9_nextTotal 9 = .ok (.iload_n 2, 1) := by decide +kernel
theorem dX9_nextTotal_10 : decode cX9_nextTotal 10 = .ok (.aload_n 0, 1) := by decide +kernel
