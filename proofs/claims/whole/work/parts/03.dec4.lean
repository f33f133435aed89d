theorem dL_raise_26 : decode cL_raise 26 = .ok (.ireturn, 1) := by decide +kernel
theorem dL_setTempo_0 : decode cL_setTempo 0 = .ok (.aload_n 2, 1) := by decide +kernel
theorem dL_setTempo_1 : decode cL_setTempo 1 = .ok (.iconst 0, 1) := by decide +kernel
theorem dL_setTempo_2 : decode cL_setTempo 2 = .ok (.aload_n 0, 1) := by decide +kernel
theorem dL_setTempo_3 : decode cL_setTempo 3 = .ok (.iload_n 1, 1) := by decide +kernel
theorem dL_setTempo_4 : decode cL_setTempo 4 = .ok (.invokevirtual 43, 3) := by decide +kernel
theorem dL_setTempo_7 : decode cL_setTempo 7 = .ok (.i2l, 1) := by decide +kernel
theorem dL_setTempo_8 : decode cL_setTempo 8 = .ok (.lastore, 1) := by decide +kernel
theorem dL_setTempo_9 : decode cL_setTempo 9 = .ok (.goto 6, 3) := by decide +kernel
theorem dL_setTempo_12 : decode cL_setTempo 12 = .ok (.astore_n 3, 1) := by decide +kernel
theorem dL_setTempo_13 : decode cL_setTempo 13 = .ok (.iconst 1, 1) := by decide +kernel
theorem dL_setTempo_14 : decode cL_setTempo 14 = .ok (.ireturn, 1) := by decide +kernel
theorem dL_setTempo_15 : decode cL_setTempo 15 = .ok (.iconst 0, 1) := by decide +kernel
theorem dL_setTempo_16 : decode cL_setTempo 16 = .ok (.ireturn, 1) := by decide +kernel
theorem dL_setLimit_0 : decode cL_setLimit 0 = .ok (.aload_n 2, 1) := by decide +kernel
theorem dL_setLimit_1 : decode cL_setLimit 1 = .ok (.iconst 0, 1) := by decide +kernel
theorem dL_setLimit_2 : decode cL_setLimit 2 = .ok (.aload_n 0, 1) := by decide +kernel
theorem dL_setLimit_3 : decode cL_setLimit 3 = .ok (.iload_n 1, 1) := by decide +kernel
theorem dL_setLimit_4 : decode cL_setLimit 4 = .ok (.invokevirtual 46, 3) := by decide +kernel
theorem dL_setLimit_7 : decode cL_setLimit 7 = .ok (.i2l, 1) := by decide +kernel
theorem dL_setLimit_8 : decode cL_setLimit 8 = .ok (.lastore, 1) := by decide +kernel
theorem dL_setLimit_9 : decode cL_setLimit 9 = .ok (.goto 6, 3) := by decide +kernel
theorem dL_setLimit_12 : decode cL_setLimit 12 = .ok (.astore_n 3, 1) := by decide +kernel
theorem dL_setLimit_13 : decode cL_setLimit 13 = .ok (.iconst 1, 1) := by decide +kernel
theorem dL_setLimit_14 : decode cL_setLimit 14 = .ok (.ireturn, 1) := by decide +kernel
theorem dL_setLimit_15 : decode cL_setLimit 15 = .ok (.iconst 0, 1) := by decide +kernel
theorem dL_setLimit_16 : decode cL_setLimit 16 = .ok (.ireturn, 1) := by decide +kernel
theorem dL_conductBeats_0 : decode cL_conductBeats 0 = .ok (.aload_n 2, 1) := by decide +kernel
theorem dL_conductBeats_1 : decode cL_conductBeats 1 = .ok (.iconst 0, 1) := by decide +kernel
theorem dL_conductBeats_2 : decode cL_conductBeats 2 = .ok (.aload_n 0, 1) := by decide +kernel
theorem dL_conductBeats_3 : decode cL_conductBeats 3 = .ok (.iload_n 1, 1) := by decide +kernel
theorem dL_conductBeats_4 : decode cL_conductBeats 4 = .ok (.invokevirtual 49, 3) := by decide +kernel
theorem dL_conductBeats_7 : decode cL_conductBeats 7 = .ok (.i2l, 1) := by decide +kernel
theorem dL_conductBeats_8 : decode cL_conductBeats 8 = .ok (.lastore, 1) := by decide +kernel
theorem dL_conductBeats_9 : decode cL_conductBeats 9 = .ok (.goto 6, 3) := by decide +kernel
theorem dL_conductBeats_12 : decode cL_conductBeats 12 = .ok (.astore_n 3, 1) := by decide +kernel
theorem dL_conductBeats_13 : decode cL_conductBeats 13 = .ok (.iconst 1, 1) := by decide +kernel
theorem dL_conductBeats_14 : decode cL_conductBeats 14 = .ok (.ireturn, 1) := by decide +kernel
theorem dL_conductBeats_15 : decode cL_conductBeats 15 = .ok (.iconst 0, 1) := by decide +kernel
theorem dL_conductBeats_16 : decode cL_conductBeats 16 = .ok (.ireturn, 1) := by decide +kernel
theorem dL_kind_0 : decode cL_kind 0 = .ok (.aload_n 2, 1) := by decide +kernel
theorem dL_kind_1 : decode cL_kind 1 = .ok (.iconst 0, 1) := by decide +kernel
theorem dL_kind_2 : decode cL_kind 2 = .ok (.aload_n 0, 1) := by decide +kernel
theorem dL_kind_3 : decode cL_kind 3 = .ok (.iload_n 1, 1) := by decide +kernel
theorem dL_kind_4 : decode cL_kind 4 = .ok (.invokevirtual 52, 3) := by decide +kernel
theorem dL_kind_7 : decode cL_kind 7 = .ok (.i2l, 1) := by decide +kernel
theorem dL_kind_8 : decode cL_kind 8 = .ok (.lastore, 1) := by decide +kernel
theorem dL_kind_9 : decode cL_kind 9 = .ok (.goto 6, 3) := by decide +kernel
theorem dL_kind_12 : decode cL_kind 12 = .ok (.astore_n 3, 1) := by decide +kernel
theorem dL_kind_13 : decode cL_kind 13 = .ok (.iconst 1, 1) := by decide +kernel
theorem dL_kind_14 : decode cL_kind 14 = .ok (.ireturn, 1) := by decide +kernel
theorem dL_kind_15 : decode cL_kind 15 = .ok (.iconst 0, 1) := by decide +kernel
theorem dL_kind_16 : decode cL_kind 16 = .ok (.ireturn, 1) := by decide +kernel
theorem dL_rows_0 : decode cL_rows 0 = .ok (.aload_n 2, 1) := by decide +kernel
theorem dL_rows_1 : decode cL_rows 1 = .ok (.iconst 0, 1) := by decide +kernel
theorem dL_rows_2 : decode cL_rows 2 = .ok (.aload_n 0, 1) := by decide +kernel
theorem dL_rows_3 : decode cL_rows 3 = .ok (.iload_n 1, 1) := by decide +kernel
theorem dL_rows_4 : decode cL_rows 4 = .ok (.invokevirtual 56, 3) := by decide +kernel
theorem dL_rows_7 : decode cL_rows 7 = .ok (.i2l, 1) := by decide +kernel
theorem dL_rows_8 : decode cL_rows 8 = .ok (.lastore, 1) := by decide +kernel
theorem dL_rows_9 : decode cL_rows 9 = .ok (.goto 6, 3) := by decide +kernel
theorem dL_rows_12 : decode cL_rows 12 = .ok (.astore_n 3, 1) := by decide +kernel
theorem dL_rows_13 : decode cL_rows 13 = .ok (.iconst 1, 1) := by decide +kernel
theorem dL_rows_14 : decode cL_rows 14 = .ok (.ireturn, 1) := by decide +kernel
theorem dL_rows_15 : decode cL_rows 15 = .ok (.iconst 0, 1) := by decide +kernel
theorem dL_rows_16 : decode cL_rows 16 = .ok (.ireturn, 1) := by decide +kernel
theorem dL_columns_0 : decode cL_columns 0 = .ok (.aload_n 2, 1) := by decide +kernel
theorem dL_columns_1 : decode cL_columns 1 = .ok (.iconst 0, 1) := by decide +kernel
theorem dL_columns_2 : decode cL_columns 2 = .ok (.aload_n 0, 1) := by decide +kernel
theorem dL_columns_3 : decode cL_columns 3 = .ok (.iload_n 1, 1) := by decide +kernel
theorem dL_columns_4 : decode cL_columns 4 = .ok (.invokevirtual 59, 3) := by decide +kernel
theorem dL_columns_7 : decode cL_columns 7 = .ok (.i2l, 1) := by decide +kernel
theorem dL_columns_8 : decode cL_columns 8 = .ok (.lastore, 1) := by decide +kernel
theorem dL_columns_9 : decode cL_columns 9 = .ok (.goto 6, 3) := by decide +kernel
theorem dL_columns_12 : decode cL_columns 12 = .ok (.astore_n 3, 1) := by decide +kernel
theorem dL_columns_13 : decode cL_columns 13 = .ok (.iconst 1, 1) := by decide +kernel
theorem dL_columns_14 : decode cL_columns 14 = .ok (.ireturn, 1) := by decide +kernel
theorem dL_columns_15 : decode cL_columns 15 = .ok (.iconst 0, 1) := by decide +kernel
theorem dL_columns_16 : decode cL_columns 16 = .ok (.ireturn, 1) := by decide +kernel
theorem dL_note_0 : decode cL_note 0 = .ok (.aload 4, 2) := by decide +kernel
theorem dL_note_2 : decode cL_note 2 = .ok (.iconst 0, 1) := by decide +kernel
theorem dL_note_3 : decode cL_note 3 = .ok (.aload_n 0, 1) := by decide +kernel
theorem dL_note_4 : decode cL_note 4 = .ok (.iload_n 1, 1) := by decide +kernel
theorem dL_note_5 : decode cL_note 5 = .ok (.iload_n 2, 1) := by decide +kernel
theorem dL_note_6 : decode cL_note 6 = .ok (.iload_n 3, 1) := by decide +kernel
theorem dL_note_7 : decode cL_note 7 = .ok (.invokevirtual 62, 3) := by decide +kernel
theorem dL_note_10 : decode cL_note 10 = .ok (.i2l, 1) := by decide +kernel
theorem dL_note_11 : decode cL_note 11 = .ok (.lastore, 1) := by decide +kernel
theorem dL_note_12 : decode cL_note 12 = .ok (.goto 7, 3) := by decide +kernel
theorem dL_note_15 : decode cL_note 15 = .ok (.astore 5, 2) := by decide +kernel
theorem dL_note_17 : decode cL_note 17 = .ok (.iconst 1, 1) := by decide +kernel
theorem dL_note_18 : decode cL_note 18 = .ok (.ireturn, 1) := by decide +kernel
theorem dL_note_19 : decode cL_note 19 = .ok (.iconst 0, 1) := by decide +kernel
theorem dL_note_20 : decode cL_note 20 = .ok (.ireturn, 1) := by decide +kernel
theorem dL_isMasked_0 : decode cL_isMasked 0 = .ok (.aload_n 3, 1) := by decide +kernel
theorem dL_isMasked_1 : decode cL_isMasked 1 = .ok (.iconst 0, 1) := by decide +kernel
theorem dL_isMasked_2 : decode cL_isMasked 2 = .ok (.aload_n 0, 1) := by decide +kernel
theorem dL_isMasked_3 : decode cL_isMasked 3 = .ok (.iload_n 1, 1) := by decide +kernel
theorem dL_isMasked_4 : decode cL_isMasked 4 = .ok (.iload_n 2, 1) := by decide +kernel
theorem dL_isMasked_5 : decode cL_isMasked 5 = .ok (.invokevirtual 66, 3) := by decide +kernel
theorem dL_isMasked_8 : decode cL_isMasked 8 = .ok (.ifCond .eq 7, 3) := by decide +kernel
theorem dL_isMasked_11 : decode cL_isMasked 11 = .ok (.lconst 1, 1) := by decide +kernel
theorem dL_isMasked_12 : decode cL_isMasked 12 = .ok (.goto 4, 3) := by decide +kernel
theorem dL_isMasked_15 : decode cL_isMasked 15 = .ok (.lconst 0, 1) := by decide +kernel
theorem dL_isMasked_16 : decode cL_isMasked 16 = .ok (.lastore, 1) := by decide +kernel
theorem dL_isMasked_17 : decode cL_isMasked 17 = .ok (.goto 11, 3) := by decide +kernel
theorem dL_isMasked_20 : decode cL_isMasked 20 = .ok (.astore 4, 2) := by decide +kernel
theorem dL_isMasked_22 : decode cL_isMasked 22 = .ok (.iconst 1, 1) := by decide +kernel
theorem dL_isMasked_23 : decode cL_isMasked 23 = .ok (.ireturn, 1) := by decide +kernel
theorem dL_isMasked_24 : decode cL_isMasked 24 = .ok (.astore 4, 2) := by decide +kernel
theorem dL_isMasked_26 : decode cL_isMasked 26 = .ok (.iconst 2, 1) := by decide +kernel
theorem dL_isMasked_27 : decode cL_isMasked 27 = .ok (.ireturn, 1) := by decide +kernel
theorem dL_isMasked_28 : decode cL_isMasked 28 = .ok (.iconst 0, 1) := by decide +kernel
theorem dL_isMasked_29 : decode cL_isMasked 29 = .ok (.ireturn, 1) := by decide +kernel
theorem dL_fatigue_0 : decode cL_fatigue 0 = .ok (.aload_n 2, 1) := by decide +kernel
theorem dL_fatigue_1 : decode cL_fatigue 1 = .ok (.iconst 0, 1) := by decide +kernel
theorem dL_fatigue_2 : decode cL_fatigue 2 = .ok (.aload_n 0, 1) := by decide +kernel
theorem dL_fatigue_3 : decode cL_fatigue 3 = .ok (.iload_n 1, 1) := by decide +kernel
theorem dL_fatigue_4 : decode cL_fatigue 4 = .ok (.invokevirtual 70, 3) := by decide +kernel
theorem dL_fatigue_7 : decode cL_fatigue 7 = .ok (.i2l, 1) := by decide +kernel
theorem dL_fatigue_8 : decode cL_fatigue 8 = .ok (.lastore, 1) := by decide +kernel
theorem dL_fatigue_9 : decode cL_fatigue 9 = .ok (.goto 6, 3) := by decide +kernel
theorem dL_fatigue_12 : decode cL_fatigue 12 = .ok (.astore_n 3, 1) := by decide +kernel
theorem dL_fatigue_13 : decode cL_fatigue 13 = .ok (.iconst 1, 1) := by decide +kernel
theorem dL_fatigue_14 : decode cL_fatigue 14 = .ok (.ireturn, 1) := by decide +kernel
theorem dL_fatigue_15 : decode cL_fatigue 15 = .ok (.iconst 0, 1) := by decide +kernel
theorem dL_fatigue_16 : decode cL_fatigue 16 = .ok (.ireturn, 1) := by decide +kernel
theorem dL_restingBeats_0 : decode cL_restingBeats 0 = .ok (.aload_n 2, 1) := by decide +kernel
theorem dL_restingBeats_1 : decode cL_restingBeats 1 = .ok (.iconst 0, 1) := by decide +kernel
theorem dL_restingBeats_2 : decode cL_restingBeats 2 = .ok (.aload_n 0, 1) := by decide +kernel
theorem dL_restingBeats_3 : decode cL_restingBeats 3 = .ok (.iload_n 1, 1) := by decide +kernel
theorem dL_restingBeats_4 : decode cL_restingBeats 4 = .ok (.invokevirtual 73, 3) := by decide +kernel
theorem dL_restingBeats_7 : decode cL_restingBeats 7 = .ok (.i2l, 1) := by decide +kernel
theorem dL_restingBeats_8 : decode cL_restingBeats 8 = .ok (.lastore, 1) := by decide +kernel
theorem dL_restingBeats_9 : decode cL_restingBeats 9 = .ok (.goto 6, 3) := by decide +kernel
theorem dL_restingBeats_12 : decode cL_restingBeats 12 = .ok (.astore_n 3, 1) := by decide +kernel
theorem dL_restingBeats_13 : decode cL_restingBeats 13 = .ok (.iconst 1, 1) := by decide +kernel
theorem dL_restingBeats_14 : decode cL_restingBeats 14 = .ok (.ireturn, 1) := by decide +kernel
theorem dL_restingBeats_15 : decode cL_restingBeats 15 = .ok (.iconst 0, 1) := by decide +kernel
theorem dL_restingBeats_16 : decode cL_restingBeats 16 = .ok (.ireturn, 1) := by decide +kernel
theorem dL_isSymmetric_0 : decode cL_isSymmetric 0 = .ok (.aload_n 2, 1) := by decide +kernel
theorem dL_isSymmetric_1 : decode cL_isSymmetric 1 = .ok (.iconst 0, 1) := by decide +kernel
theorem dL_isSymmetric_2 : decode cL_isSymmetric 2 = .ok (.aload_n 0, 1) := by decide +kernel
theorem dL_isSymmetric_3 : decode cL_isSymmetric 3 = .ok (.iload_n 1, 1) := by decide +kernel
theorem dL_isSymmetric_4 : decode cL_isSymmetric 4 = .ok (.invokevirtual 76, 3) := by decide +kernel
theorem dL_isSymmetric_7 : decode cL_isSymmetric 7 = .ok (.ifCond .eq 7, 3) := by decide +kernel
theorem dL_isSymmetric_10 : decode cL_isSymmetric 10 = .ok (.lconst 1, 1) := by decide +kernel
theorem dL_isSymmetric_11 : decode cL_isSymmetric 11 = .ok (.goto 4, 3) := by decide +kernel
theorem dL_isSymmetric_14 : decode cL_isSymmetric 14 = .ok (.lconst 0, 1) := by decide +kernel
theorem dL_isSymmetric_15 : decode cL_isSymmetric 15 = .ok (.lastore, 1) := by decide +kernel
theorem dL_isSymmetric_16 : decode cL_isSymmetric 16 = .ok (.goto 6, 3) := by decide +kernel
theorem dL_isSymmetric_19 : decode cL_isSymmetric 19 = .ok (.astore_n 3, 1) := by decide +kernel
theorem dL_isSymmetric_20 : decode cL_isSymmetric 20 = .ok (.iconst 1, 1) := by decide +kernel
theorem dL_isSymmetric_21 : decode cL_isSymmetric 21 = .ok (.ireturn, 1) := by decide +kernel
theorem dL_isSymmetric_22 : decode cL_isSymmetric 22 = .ok (.iconst 0, 1) := by decide +kernel
theorem dL_isSymmetric_23 : decode cL_isSymmetric 23 = .ok (.ireturn, 1) := by decide +kernel
theorem dL_areAlike_0 : decode cL_areAlike 0 = .ok (.aload_n 3, 1) := by decide +kernel
theorem dL_areAlike_1 : decode cL_areAlike 1 = .ok (.iconst 0, 1) := by decide +kernel
theorem dL_areAlike_2 : decode cL_areAlike 2 = .ok (.aload_n 0, 1) := by decide +kernel
theorem dL_areAlike_3 : decode cL_areAlike 3 = .ok (.iload_n 1, 1) := by decide +kernel
theorem dL_areAlike_4 : decode cL_areAlike 4 = .ok (.iload_n 2, 1) := by decide +kernel
theorem dL_areAlike_5 : decode cL_areAlike 5 = .ok (.invokevirtual 80, 3) := by decide +kernel
theorem dL_areAlike_8 : decode cL_areAlike 8 = .ok (.ifCond .eq 7, 3) := by decide +kernel
theorem dL_areAlike_11 : decode cL_areAlike 11 = .ok (.lconst 1, 1) := by decide +kernel
theorem dL_areAlike_12 : decode cL_areAlike 12 = .ok (.goto 4, 3) := by decide +kernel
theorem dL_areAlike_15 : decode cL_areAlike 15 = .ok (.lconst 0, 1) := by decide +kernel
theorem dL_areAlike_16 : decode cL_areAlike 16 = .ok (.lastore, 1) := by decide +kernel
theorem dL_areAlike_17 : decode cL_areAlike 17 = .ok (.goto 7, 3) := by decide +kernel
theorem dL_areAlike_20 : decode cL_areAlike 20 = .ok (.astore 4, 2) := by decide +kernel
theorem dL_areAlike_22 : decode cL_areAlike 22 = .ok (.iconst 1, 1) := by decide +kernel
theorem dL_areAlike_23 : decode cL_areAlike 23 = .ok (.ireturn, 1) := by decide +kernel
theorem dL_areAlike_24 : decode cL_areAlike 24 = .ok (.iconst 0, 1) := by decide +kernel
theorem dL_areAlike_25 : decode cL_areAlike 25 = .ok (.ireturn, 1) := by decide +kernel
theorem dL_noteVolume_0 : decode cL_noteVolume 0 = .ok (.aload_n 3, 1) := by decide +kernel
theorem dL_noteVolume_1 : decode cL_noteVolume 1 = .ok (.iconst 0, 1) := by decide +kernel
theorem dL_noteVolume_2 : decode cL_noteVolume 2 = .ok (.aload_n 0, 1) := by decide +kernel
theorem dL_noteVolume_3 : decode cL_noteVolume 3 = .ok (.iload_n 1, 1) := by decide +kernel
theorem dL_noteVolume_4 : decode cL_noteVolume 4 = .ok (.iload_n 2, 1) := by decide +kernel
theorem dL_noteVolume_5 : decode cL_noteVolume 5 = .ok (.invokevirtual 83, 3) := by decide +kernel
theorem dL_noteVolume_8 : decode cL_noteVolume 8 = .ok (.i2l, 1) := by decide +kernel
theorem dL_noteVolume_9 : decode cL_noteVolume 9 = .ok (.lastore, 1) := by decide +kernel
theorem dL_noteVolume_10 : decode cL_noteVolume 10 = .ok (.goto 7, 3) := by decide +kernel
theorem dL_noteVolume_13 : decode cL_noteVolume 13 = .ok (.astore 4, 2) := by decide +kernel
theorem dL_noteVolume_15 : decode cL_noteVolume 15 = .ok (.iconst 1, 1) := by decide +kernel
theorem dL_noteVolume_16 : decode cL_noteVolume 16 = .ok (.ireturn, 1) := by decide +kernel
theorem dL_noteVolume_17 : decode cL_noteVolume 17 = .ok (.iconst 0, 1) := by decide +kernel
theorem dL_noteVolume_18 : decode cL_noteVolume 18 = .ok (.ireturn, 1) := by decide +kernel
theorem dL_columnVolume_0 : decode cL_columnVolume 0 = .ok (.aload_n 3, 1) := by decide +kernel
theorem dL_columnVolume_1 : decode cL_columnVolume 1 = .ok (.iconst 0, 1) := by decide +kernel
theorem dL_columnVolume_2 : decode cL_columnVolume 2 = .ok (.aload_n 0, 1) := by decide +kernel
theorem dL_columnVolume_3 : decode cL_columnVolume 3 = .ok (.iload_n 1, 1) := by decide +kernel
theorem dL_columnVolume_4 : decode cL_columnVolume 4 = .ok (.iload_n 2, 1) := by decide +kernel
theorem dL_columnVolume_5 : decode cL_columnVolume 5 = .ok (.invokevirtual 87, 3) := by decide +kernel
theorem dL_columnVolume_8 : decode cL_columnVolume 8 = .ok (.i2l, 1) := by decide +kernel
theorem dL_columnVolume_9 : decode cL_columnVolume 9 = .ok (.lastore, 1) := by decide +kernel
theorem dL_columnVolume_10 : decode cL_columnVolume 10 = .ok (.goto 7, 3) := by decide +kernel
theorem dL_columnVolume_13 : decode cL_columnVolume 13 = .ok (.astore 4, 2) := by decide +kernel
theorem dL_columnVolume_15 : decode cL_columnVolume 15 = .ok (.iconst 1, 1) := by decide +kernel
theorem dL_columnVolume_16 : decode cL_columnVolume 16 = .ok (.ireturn, 1) := by decide +kernel
theorem dL_columnVolume_17 : decode cL_columnVolume 17 = .ok (.iconst 0, 1) := by decide +kernel
theorem dL_columnVolume_18 : decode cL_columnVolume 18 = .ok (.ireturn, 1) := by decide +kernel
theorem dL_columnVolumeByTransposing_0 : decode cL_columnVolumeByTransposing 0 = .ok (.aload_n 3, 1) := by decide +kernel
theorem dL_columnVolumeByTransposing_1 : decode cL_columnVolumeByTransposing 1 = .ok (.iconst 0, 1) := by decide +kernel
theorem dL_columnVolumeByTransposing_2 : decode cL_columnVolumeByTransposing 2 = .ok (.aload_n 0, 1) := by decide +kernel
theorem dL_columnVolumeByTransposing_3 : decode cL_columnVolumeByTransposing 3 = .ok (.iload_n 1, 1) := by decide +kernel
theorem dL_columnVolumeByTransposing_4 : decode cL_columnVolumeByTransposing 4 = .ok (.iload_n 2, 1) := by decide +kernel
theorem dL_columnVolumeByTransposing_5 : decode cL_columnVolumeByTransposing 5 = .ok (.invokevirtual 90, 3) := by decide +kernel
theorem dL_columnVolumeByTransposing_8 : decode cL_columnVolumeByTransposing 8 = .ok (.i2l, 1) := by decide +kernel
theorem dL_columnVolumeByTransposing_9 : decode cL_columnVolumeByTransposing 9 = .ok (.lastore, 1) := by decide +kernel
theorem dL_columnVolumeByTransposing_10 : decode cL_columnVolumeByTransposing 10 = .ok (.goto 7, 3) := by decide +kernel
theorem dL_columnVolumeByTransposing_13 : decode cL_columnVolumeByTransposing 13 = .ok (.astore 4, 2) := by decide +kernel
theorem dL_columnVolumeByTransposing_15 : decode cL_columnVolumeByTransposing 15 = .ok (.iconst 1, 1) := by decide +kernel
theorem dL_columnVolumeByTransposing_16 : decode cL_columnVolumeByTransposing 16 = .ok (.ireturn, 1) := by decide +kernel
theorem dL_columnVolumeByTransposing_17 : decode cL_columnVolumeByTransposing 17 = .ok (.iconst 0, 1) := by decide +kernel
theorem dL_columnVolumeByTransposing_18 : decode cL_columnVolumeByTransposing 18 = .ok (.ireturn, 1) := by decide +kernel
theorem dL_nextVolume_0 : decode cL_nextVolume 0 = .ok (.aload_n 2, 1) := by decide +kernel
theorem dL_nextVolume_1 : decode cL_nextVolume 1 = .ok (.iconst 0, 1) := by decide +kernel
theorem dL_nextVolume_2 : decode cL_nextVolume 2 = .ok (.aload_n 0, 1) := by decide +kernel
theorem dL_nextVolume_3 : decode cL_nextVolume 3 = .ok (.iload_n 1, 1) := by decide +kernel
theorem dL_nextVolume_4 : decode cL_nextVolume 4 = .ok (.invokevirtual 93, 3) := by decide +kernel
theorem dL_nextVolume_7 : decode cL_nextVolume 7 = .ok (.i2l, 1) := by decide +kernel
theorem dL_nextVolume_8 : decode cL_nextVolume 8 = .ok (.lastore, 1) := by decide +kernel
theorem dL_nextVolume_9 : decode cL_nextVolume 9 = .ok (.goto 6, 3) := by decide +kernel
theorem dL_nextVolume_12 : decode cL_nextVolume 12 = .ok (.astore_n 3, 1) := by decide +kernel
theorem dL_nextVolume_13 : decode cL_nextVolume 13 = .ok (.iconst 1, 1) := by decide +kernel
theorem dL_nextVolume_14 : decode cL_nextVolume 14 = .ok (.ireturn, 1) := by decide +kernel
theorem dL_nextVolume_15 : decode cL_nextVolume 15 = .ok (.iconst 0, 1) := by decide +kernel
theorem dL_nextVolume_16 : decode cL_nextVolume 16 = .ok (.ireturn, 1) := by decide +kernel
theorem dL_beatsUntilBreak_0 : decode cL_beatsUntilBreak 0 = .ok (.aload_n 1, 1) := by decide +kernel
theorem dL_beatsUntilBreak_1 : decode cL_beatsUntilBreak 1 = .ok (.iconst 0, 1) := by decide +kernel
theorem dL_beatsUntilBreak_2 : decode cL_beatsUntilBreak 2 = .ok (.aload_n 0, 1) := by decide +kernel
theorem dL_beatsUntilBreak_3 : decode cL_beatsUntilBreak 3 = .ok (.invokevirtual 96, 3) := by decide +kernel
theorem dL_beatsUntilBreak_6 : decode cL_beatsUntilBreak 6 = .ok (.i2l, 1) := by decide +kernel
theorem dL_beatsUntilBreak_7 : decode cL_beatsUntilBreak 7 = .ok (.lastore, 1) := by decide +kernel
theorem dL_beatsUntilBreak_8 : decode cL_beatsUntilBreak 8 = .ok (.goto 6, 3) := by decide +kernel
theorem dL_beatsUntilBreak_11 : decode cL_beatsUntilBreak 11 = .ok (.astore_n 2, 1) := by decide +kernel
theorem dL_beatsUntilBreak_12 : decode cL_beatsUntilBreak 12 = .ok (.iconst 1, 1) := by decide +kernel
theorem dL_beatsUntilBreak_13 : decode cL_beatsUntilBreak 13 = .ok (.ireturn, 1) := by decide +kernel
theorem dL_beatsUntilBreak_14 : decode cL_beatsUntilBreak 14 = .ok (.iconst 0, 1) := by decide +kernel
theorem dL_beatsUntilBreak_15 : decode cL_beatsUntilBreak 15 = .ok (.ireturn, 1) := by decide +kernel
theorem dL_totalWithin_0 : decode cL_totalWithin 0 = .ok (.aload_n 2, 1) := by decide +kernel
theorem dL_totalWithin_1 : decode cL_totalWithin 1 = .ok (.iconst 0, 1) := by decide +kernel
theorem dL_totalWithin_2 : decode cL_totalWithin 2 = .ok (.aload_n 0, 1) := by decide +kernel
theorem dL_totalWithin_3 : decode cL_totalWithin 3 = .ok (.iload_n 1, 1) := by decide +kernel
theorem dL_totalWithin_4 : decode cL_totalWithin 4 = .ok (.invokevirtual 102, 3) := by decide +kernel
theorem dL_totalWithin_7 : decode cL_totalWithin 7 = .ok (.i2l, 1) := by decide +kernel
theorem dL_totalWithin_8 : decode cL_totalWithin 8 = .ok (.lastore, 1) := by decide +kernel
theorem dL_totalWithin_9 : decode cL_totalWithin 9 = .ok (.goto 6, 3) := by decide +kernel
theorem dL_totalWithin_12 : decode cL_totalWithin 12 = .ok (.astore_n 3, 1) := by decide +kernel
theorem dL_totalWithin_13 : decode cL_totalWithin 13 = .ok (.iconst 1, 1) := by decide +kernel
theorem dL_totalWithin_14 : decode cL_totalWithin 14 = .ok (.ireturn, 1) := by decide +kernel
theorem dL_totalWithin_15 : decode cL_totalWithin 15 = .ok (.iconst 0, 1) := by decide +kernel
theorem dL_totalWithin_16 : decode cL_totalWithin 16 = .ok (.ireturn, 1) := by decide +kernel
theorem dL_playedVolume_0 : decode cL_playedVolume 0 = .ok (.aload_n 2, 1) := by decide +kernel
theorem dL_playedVolume_1 : decode cL_playedVolume 1 = .ok (.iconst 0, 1) := by decide +kernel
theorem dL_playedVolume_2 : decode cL_playedVolume 2 = .ok (.aload_n 0, 1) := by decide +kernel
theorem dL_playedVolume_3 : decode cL_playedVolume 3 = .ok (.iload_n 1, 1) := by decide +kernel
theorem dL_playedVolume_4 : decode cL_playedVolume 4 = .ok (.invokevirtual 105, 3) := by decide +kernel
theorem dL_playedVolume_7 : decode cL_playedVolume 7 = .ok (.i2l, 1) := by decide +kernel
theorem dL_playedVolume_8 : decode cL_playedVolume 8 = .ok (.lastore, 1) := by decide +kernel
theorem dL_playedVolume_9 : decode cL_playedVolume 9 = .ok (.goto 6, 3) := by decide +kernel
theorem dL_playedVolume_12 : decode cL_playedVolume 12 = .ok (.astore_n 3, 1) := by decide +kernel
theorem dL_playedVolume_13 : decode cL_playedVolume 13 = .ok (.iconst 1, 1) := by decide +kernel
theorem dL_playedVolume_14 : decode cL_playedVolume 14 = .ok (.ireturn, 1) := by decide +kernel
theorem dL_playedVolume_15 : decode cL_playedVolume 15 = .ok (.iconst 0, 1) := by decide +kernel
theorem dL_playedVolume_16 : decode cL_playedVolume 16 = .ok (.ireturn, 1) := by decide +kernel
theorem dL_soundCount_0 : decode cL_soundCount 0 = .ok (.aload_n 3, 1) := by decide +kernel
theorem dL_soundCount_1 : decode cL_soundCount 1 = .ok (.iconst 0, 1) := by decide +kernel
theorem dL_soundCount_2 : decode cL_soundCount 2 = .ok (.aload_n 0, 1) := by decide +kernel
theorem dL_soundCount_3 : decode cL_soundCount 3 = .ok (.iload_n 1, 1) := by decide +kernel
theorem dL_soundCount_4 : decode cL_soundCount 4 = .ok (.iload_n 2, 1) := by decide +kernel
theorem dL_soundCount_5 : decode cL_soundCount 5 = .ok (.invokevirtual 108, 3) := by decide +kernel
theorem dL_soundCount_8 : decode cL_soundCount 8 = .ok (.i2l, 1) := by decide +kernel
theorem dL_soundCount_9 : decode cL_soundCount 9 = .ok (.lastore, 1) := by decide +kernel
theorem dL_soundCount_10 : decode cL_soundCount 10 = .ok (.goto 7, 3) := by decide +kernel
theorem dL_soundCount_13 : decode cL_soundCount 13 = .ok (.astore 4, 2) := by decide +kernel
theorem dL_soundCount_15 : decode cL_soundCount 15 = .ok (.iconst 1, 1) := by decide +kernel
theorem dL_soundCount_16 : decode cL_soundCount 16 = .ok (.ireturn, 1) := by decide +kernel
theorem dL_soundCount_17 : decode cL_soundCount 17 = .ok (.iconst 0, 1) := by decide +kernel
theorem dL_soundCount_18 : decode cL_soundCount 18 = .ok (.ireturn, 1) := by decide +kernel
theorem dL_greatestTotal_0 : decode cL_greatestTotal 0 = .ok (.aload_n 1, 1) := by decide +kernel
theorem dL_greatestTotal_1 : decode cL_greatestTotal 1 = .ok (.iconst 0, 1) := by decide +kernel
theorem dL_greatestTotal_2 : decode cL_greatestTotal 2 = .ok (.aload_n 0, 1) := by decide +kernel
theorem dL_greatestTotal_3 : decode cL_greatestTotal 3 = .ok (.invokevirtual 111, 3) := by decide +kernel
theorem dL_greatestTotal_6 : decode cL_greatestTotal 6 = .ok (.i2l, 1) := by decide +kernel
theorem dL_greatestTotal_7 : decode cL_greatestTotal 7 = .ok (.lastore, 1) := by decide +kernel
theorem dL_greatestTotal_8 : decode cL_greatestTotal 8 = .ok (.goto 6, 3) := by decide +kernel
theorem dL_greatestTotal_11 : decode cL_greatestTotal 11 = .ok (.astore_n 2, 1) := by decide +kernel
theorem dL_greatestTotal_12 : decode cL_greatestTotal 12 = .ok (.iconst 1, 1) := by decide +kernel
theorem dL_greatestTotal_13 : decode cL_greatestTotal 13 = .ok (.ireturn, 1) := by decide +kernel
theorem dL_greatestTotal_14 : decode cL_greatestTotal 14 = .ok (.iconst 0, 1) := by decide +kernel
theorem dL_greatestTotal_15 : decode cL_greatestTotal 15 = .ok (.ireturn, 1) := by decide +kernel
theorem dL_loggedTotal_0 : decode cL_loggedTotal 0 = .ok (.aload_n 2, 1) := by decide +kernel
theorem dL_loggedTotal_1 : decode cL_loggedTotal 1 = .ok (.iconst 0, 1) := by decide +kernel
theorem dL_loggedTotal_2 : decode cL_loggedTotal 2 = .ok (.aload_n 0, 1) := by decide +kernel
theorem dL_loggedTotal_3 : decode cL_loggedTotal 3 = .ok (.iload_n 1, 1) := by decide +kernel
theorem dL_loggedTotal_4 : decode cL_loggedTotal 4 = .ok (.invokevirtual 114, 3) := by decide +kernel
theorem dL_loggedTotal_7 : decode cL_loggedTotal 7 = .ok (.i2l, 1) := by decide +kernel
theorem dL_loggedTotal_8 : decode cL_loggedTotal 8 = .ok (.lastore, 1) := by decide +kernel
theorem dL_loggedTotal_9 : decode cL_loggedTotal 9 = .ok (.goto 6, 3) := by decide +kernel
theorem dL_loggedTotal_12 : decode cL_loggedTotal 12 = .ok (.astore_n 3, 1) := by decide +kernel
theorem dL_loggedTotal_13 : decode cL_loggedTotal 13 = .ok (.iconst 1, 1) := by decide +kernel
theorem dL_loggedTotal_14 : decode cL_loggedTotal 14 = .ok (.ireturn, 1) := by decide +kernel
theorem dL_loggedTotal_15 : decode cL_loggedTotal 15 = .ok (.iconst 0, 1) := by decide +kernel
theorem dL_loggedTotal_16 : decode cL_loggedTotal 16 = .ok (.ireturn, 1) := by decide +kernel
theorem dL_sectionByVolume_0 : decode cL_sectionByVolume 0 = .ok (.aload_n 2, 1) := by decide +kernel
theorem dL_sectionByVolume_1 : decode cL_sectionByVolume 1 = .ok (.iconst 0, 1) := by decide +kernel
theorem dL_sectionByVolume_2 : decode cL_sectionByVolume 2 = .ok (.aload_n 0, 1) := by decide +kernel
theorem dL_sectionByVolume_3 : decode cL_sectionByVolume 3 = .ok (.iload_n 1, 1) := by decide +kernel
theorem dL_sectionByVolume_4 : decode cL_sectionByVolume 4 = .ok (.invokevirtual 117, 3) := by decide +kernel
theorem dL_sectionByVolume_7 : decode cL_sectionByVolume 7 = .ok (.i2l, 1) := by decide +kernel
theorem dL_sectionByVolume_8 : decode cL_sectionByVolume 8 = .ok (.lastore, 1) := by decide +kernel
theorem dL_sectionByVolume_9 : decode cL_sectionByVolume 9 = .ok (.goto 6, 3) := by decide +kernel
theorem dL_sectionByVolume_12 : decode cL_sectionByVolume 12 = .ok (.astore_n 3, 1) := by decide +kernel
theorem dL_sectionByVolume_13 : decode cL_sectionByVolume 13 = .ok (.iconst 1, 1) := by decide +kernel
theorem dL_sectionByVolume_14 : decode cL_sectionByVolume 14 = .ok (.ireturn, 1) := by decide +kernel
theorem dL_sectionByVolume_15 : decode cL_sectionByVolume 15 = .ok (.iconst 0, 1) := by decide +kernel
theorem dL_sectionByVolume_16 : decode cL_sectionByVolume 16 = .ok (.ireturn, 1) := by decide +kernel
theorem dL_noteBySounds_0 : decode cL_noteBySounds 0 = .ok (.aload_n 2, 1) := by decide +kernel
theorem dL_noteBySounds_1 : decode cL_noteBySounds 1 = .ok (.iconst 0, 1) := by decide +kernel
theorem dL_noteBySounds_2 : decode cL_noteBySounds 2 = .ok (.aload_n 0, 1) := by decide +kernel
theorem dL_noteBySounds_3 : decode cL_noteBySounds 3 = .ok (.iload_n 1, 1) := by decide +kernel
theorem dL_noteBySounds_4 : decode cL_noteBySounds 4 = .ok (.invokevirtual 120, 3) := by decide +kernel
theorem dL_noteBySounds_7 : decode cL_noteBySounds 7 = .ok (.i2l, 1) := by decide +kernel
theorem dL_noteBySounds_8 : decode cL_noteBySounds 8 = .ok (.lastore, 1) := by decide +kernel
theorem dL_noteBySounds_9 : decode cL_noteBySounds 9 = .ok (.goto 6, 3) := by decide +kernel
theorem dL_noteBySounds_12 : decode cL_noteBySounds 12 = .ok (.astore_n 3, 1) := by decide +kernel
theorem dL_noteBySounds_13 : decode cL_noteBySounds 13 = .ok (.iconst 1, 1) := by decide +kernel
theorem dL_noteBySounds_14 : decode cL_noteBySounds 14 = .ok (.ireturn, 1) := by decide +kernel
theorem dL_noteBySounds_15 : decode cL_noteBySounds 15 = .ok (.iconst 0, 1) := by decide +kernel
theorem dL_noteBySounds_16 : decode cL_noteBySounds 16 = .ok (.ireturn, 1) := by decide +kernel
theorem dL_meanTotal_0 : decode cL_meanTotal 0 = .ok (.aload_n 1, 1) := by decide +kernel
theorem dL_meanTotal_1 : decode cL_meanTotal 1 = .ok (.iconst 0, 1) := by decide +kernel
theorem dL_meanTotal_2 : decode cL_meanTotal 2 = .ok (.aload_n 0, 1) := by decide +kernel
theorem dL_meanTotal_3 : decode cL_meanTotal 3 = .ok (.invokevirtual 123, 3) := by decide +kernel
theorem dL_meanTotal_6 : decode cL_meanTotal 6 = .ok (.dastore, 1) := by decide +kernel
theorem dL_meanTotal_7 : decode cL_meanTotal 7 = .ok (.goto 6, 3) := by decide +kernel
theorem dL_meanTotal_10 : decode cL_meanTotal 10 = .ok (.astore_n 2, 1) := by decide +kernel
theorem dL_meanTotal_11 : decode cL_meanTotal 11 = .ok (.iconst 1, 1) := by decide +kernel
theorem dL_meanTotal_12 : decode cL_meanTotal 12 = .ok (.ireturn, 1) := by decide +kernel
theorem dL_meanTotal_13 : decode cL_meanTotal 13 = .ok (.iconst 0, 1) := by decide +kernel
theorem dL_meanTotal_14 : decode cL_meanTotal 14 = .ok (.ireturn, 1) := by decide +kernel
theorem dL_maskedShare_0 : decode cL_maskedShare 0 = .ok (.aload_n 2, 1) := by decide +kernel
theorem dL_maskedShare_1 : decode cL_maskedShare 1 = .ok (.iconst 0, 1) := by decide +kernel
theorem dL_maskedShare_2 : decode cL_maskedShare 2 = .ok (.aload_n 0, 1) := by decide +kernel
theorem dL_maskedShare_3 : decode cL_maskedShare 3 = .ok (.iload_n 1, 1) := by decide +kernel
theorem dL_maskedShare_4 : decode cL_maskedShare 4 = .ok (.invokevirtual 129, 3) := by decide +kernel
theorem dL_maskedShare_7 : decode cL_maskedShare 7 = .ok (.f2d, 1) := by decide +kernel
theorem dL_maskedShare_8 : decode cL_maskedShare 8 = .ok (.dastore, 1) := by decide +kernel
theorem dL_maskedShare_9 : decode cL_maskedShare 9 = .ok (.goto 6, 3) := by decide +kernel
theorem dL_maskedShare_12 : decode cL_maskedShare 12 = .ok (.astore_n 3, 1) := by decide +kernel
theorem dL_maskedShare_13 : decode cL_maskedShare 13 = .ok (.iconst 1, 1) := by decide +kernel
theorem dL_maskedShare_14 : decode cL_maskedShare 14 = .ok (.ireturn, 1) := by decide +kernel
theorem dL_maskedShare_15 : decode cL_maskedShare 15 = .ok (.iconst 0, 1) := by decide +kernel
theorem dL_maskedShare_16 : decode cL_maskedShare 16 = .ok (.ireturn, 1) := by decide +kernel
theorem dL_renderScore_0 : decode cL_renderScore 0 = .ok (.aload_n 2, 1) := by decide +kernel
theorem dL_renderScore_1 : decode cL_renderScore 1 = .ok (.iconst 0, 1) := by decide +kernel
theorem dL_renderScore_2 : decode cL_renderScore 2 = .ok (.aload_n 0, 1) := by decide +kernel
theorem dL_renderScore_3 : decode cL_renderScore 3 = .ok (.iload_n 1, 1) := by decide +kernel
theorem dL_renderScore_4 : decode cL_renderScore 4 = .ok (.invokevirtual 133, 3) := by decide +kernel
theorem dL_renderScore_7 : decode cL_renderScore 7 = .ok (.i2l, 1) := by decide +kernel
theorem dL_renderScore_8 : decode cL_renderScore 8 = .ok (.lastore, 1) := by decide +kernel
theorem dL_renderScore_9 : decode cL_renderScore 9 = .ok (.goto 6, 3) := by decide +kernel
theorem dL_renderScore_12 : decode cL_renderScore 12 = .ok (.astore_n 3, 1) := by decide +kernel
theorem dL_renderScore_13 : decode cL_renderScore 13 = .ok (.iconst 1, 1) := by decide +kernel
theorem dL_renderScore_14 : decode cL_renderScore 14 = .ok (.ireturn, 1) := by decide +kernel
theorem dL_renderScore_15 : decode cL_renderScore 15 = .ok (.iconst 0, 1) := by decide +kernel
theorem dL_renderScore_16 : decode cL_renderScore 16 = .ok (.ireturn, 1) := by decide +kernel
theorem dL_renderMask_0 : decode cL_renderMask 0 = .ok (.aload_n 2, 1) := by decide +kernel
theorem dL_renderMask_1 : decode cL_renderMask 1 = .ok (.iconst 0, 1) := by decide +kernel
theorem dL_renderMask_2 : decode cL_renderMask 2 = .ok (.aload_n 0, 1) := by decide +kernel
theorem dL_renderMask_3 : decode cL_renderMask 3 = .ok (.iload_n 1, 1) := by decide +kernel
theorem dL_renderMask_4 : decode cL_renderMask 4 = .ok (.invokevirtual 136, 3) := by decide +kernel
theorem dL_renderMask_7 : decode cL_renderMask 7 = .ok (.i2l, 1) := by decide +kernel
theorem dL_renderMask_8 : decode cL_renderMask 8 = .ok (.lastore, 1) := by decide +kernel
theorem dL_renderMask_9 : decode cL_renderMask 9 = .ok (.goto 6, 3) := by decide +kernel
theorem dL_renderMask_12 : decode cL_renderMask 12 = .ok (.astore_n 3, 1) := by decide +kernel
theorem dL_renderMask_13 : decode cL_renderMask 13 = .ok (.iconst 1, 1) := by decide +kernel
theorem dL_renderMask_14 : decode cL_renderMask 14 = .ok (.ireturn, 1) := by decide +kernel
theorem dL_renderMask_15 : decode cL_renderMask 15 = .ok (.iconst 0, 1) := by decide +kernel
theorem dL_renderMask_16 : decode cL_renderMask 16 = .ok (.ireturn, 1) := by decide +kernel
theorem dL_outputAt_0 : decode cL_outputAt 0 = .ok (.aload_n 2, 1) := by decide +kernel
theorem dL_outputAt_1 : decode cL_outputAt 1 = .ok (.iconst 0, 1) := by decide +kernel
theorem dL_outputAt_2 : decode cL_outputAt 2 = .ok (.aload_n 0, 1) := by decide +kernel
theorem dL_outputAt_3 : decode cL_outputAt 3 = .ok (.iload_n 1, 1) := by decide +kernel
theorem dL_outputAt_4 : decode cL_outputAt 4 = .ok (.invokevirtual 139, 3) := by decide +kernel
theorem dL_outputAt_7 : decode cL_outputAt 7 = .ok (.i2l, 1) := by decide +kernel
theorem dL_outputAt_8 : decode cL_outputAt 8 = .ok (.lastore, 1) := by decide +kernel
theorem dL_outputAt_9 : decode cL_outputAt 9 = .ok (.goto 6, 3) := by decide +kernel
theorem dL_outputAt_12 : decode cL_outputAt 12 = .ok (.astore_n 3, 1) := by decide +kernel
theorem dL_outputAt_13 : decode cL_outputAt 13 = .ok (.iconst 1, 1) := by decide +kernel
theorem dL_outputAt_14 : decode cL_outputAt 14 = .ok (.ireturn, 1) := by decide +kernel
theorem dL_outputAt_15 : decode cL_outputAt 15 = .ok (.iconst 0, 1) := by decide +kernel
theorem dL_outputAt_16 : decode cL_outputAt 16 = .ok (.ireturn, 1) := by decide +kernel
theorem dL_type_0 : decode cL_type 0 = .ok (.aload_n 2, 1) := by decide +kernel
theorem dL_type_1 : decode cL_type 1 = .ok (.iconst 0, 1) := by decide +kernel
theorem dL_type_2 : decode cL_type 2 = .ok (.aload_n 0, 1) := by decide +kernel
theorem dL_type_3 : decode cL_type 3 = .ok (.iload_n 1, 1) := by decide +kernel
theorem dL_type_4 : decode cL_type 4 = .ok (.invokevirtual 142, 3) := by decide +kernel
theorem dL_type_7 : decode cL_type 7 = .ok (.i2l, 1) := by decide +kernel
theorem dL_type_8 : decode cL_type 8 = .ok (.lastore, 1) := by decide +kernel
theorem dL_type_9 : decode cL_type 9 = .ok (.goto 9, 3) := by decide +kernel
theorem dL_type_12 : decode cL_type 12 = .ok (.astore_n 3, 1) := by decide +kernel
theorem dL_type_13 : decode cL_type 13 = .ok (.iconst 1, 1) := by decide +kernel
theorem dL_type_14 : decode cL_type 14 = .ok (.ireturn, 1) := by decide +kernel
theorem dL_type_15 : decode cL_type 15 = .ok (.astore_n 3, 1) := by decide +kernel
theorem dL_type_16 : decode cL_type 16 = .ok (.iconst 2, 1) := by decide +kernel
theorem dL_type_17 : decode cL_type 17 = .ok (.ireturn, 1) := by decide +kernel
theorem dL_type_18 : decode cL_type 18 = .ok (.iconst 0, 1) := by decide +kernel
theorem dL_type_19 : decode cL_type 19 = .ok (.ireturn, 1) := by decide +kernel
theorem dL_runScript_0 : decode cL_runScript 0 = .ok (.aload_n 1, 1) := by decide +kernel
theorem dL_runScript_1 : decode cL_runScript 1 = .ok (.iconst 0, 1) := by decide +kernel
theorem dL_runScript_2 : decode cL_runScript 2 = .ok (.aload_n 0, 1) := by decide +kernel
theorem dL_runScript_3 : decode cL_runScript 3 = .ok (.invokevirtual 146, 3) := by decide +kernel
theorem dL_runScript_6 : decode cL_runScript 6 = .ok (.i2l, 1) := by decide +kernel
theorem dL_runScript_7 : decode cL_runScript 7 = .ok (.lastore, 1) := by decide +kernel
theorem dL_runScript_8 : decode cL_runScript 8 = .ok (.goto 9, 3) := by decide +kernel
theorem dL_runScript_11 : decode cL_runScript 11 = .ok (.astore_n 2, 1) := by decide +kernel
theorem dL_runScript_12 : decode cL_runScript 12 = .ok (.iconst 1, 1) := by decide +kernel
theorem dL_runScript_13 : decode cL_runScript 13 = .ok (.ireturn, 1) := by decide +kernel
theorem dL_runScript_14 : decode cL_runScript 14 = .ok (.astore_n 2, 1) := by decide +kernel
theorem dL_runScript_15 : decode cL_runScript 15 = .ok (.iconst 2, 1) := by decide +kernel
theorem dL_runScript_16 : decode cL_runScript 16 = .ok (.ireturn, 1) := by decide +kernel
theorem dL_runScript_17 : decode cL_runScript 17 = .ok (.iconst 0, 1) := by decide +kernel
theorem dL_runScript_18 : decode cL_runScript 18 = .ok (.ireturn, 1) := by decide +kernel
theorem dL_errorPosition_0 : decode cL_errorPosition 0 = .ok (.aload_n 1, 1) := by decide +kernel
theorem dL_errorPosition_1 : decode cL_errorPosition 1 = .ok (.iconst 0, 1) := by decide +kernel
theorem dL_errorPosition_2 : decode cL_errorPosition 2 = .ok (.aload_n 0, 1) := by decide +kernel
theorem dL_errorPosition_3 : decode cL_errorPosition 3 = .ok (.invokevirtual 149, 3) := by decide +kernel
theorem dL_errorPosition_6 : decode cL_errorPosition 6 = .ok (.i2l, 1) := by decide +kernel
theorem dL_errorPosition_7 : decode cL_errorPosition 7 = .ok (.lastore, 1) := by decide +kernel
theorem dL_errorPosition_8 : decode cL_errorPosition 8 = .ok (.goto 6, 3) := by decide +kernel
theorem dL_errorPosition_11 : decode cL_errorPosition 11 = .ok (.astore_n 2, 1) := by decide +kernel
theorem dL_errorPosition_12 : decode cL_errorPosition 12 = .ok (.iconst 1, 1) := by decide +kernel
theorem dL_errorPosition_13 : decode cL_errorPosition 13 = .ok (.ireturn, 1) := by decide +kernel
theorem dL_errorPosition_14 : decode cL_errorPosition 14 = .ok (.iconst 0, 1) := by decide +kernel
theorem dL_errorPosition_15 : decode cL_errorPosition 15 = .ok (.ireturn, 1) := by decide +kernel
theorem dL_failedCommand_0 : decode cL_failedCommand 0 = .ok (.aload_n 1, 1) := by decide +kernel
theorem dL_failedCommand_1 : decode cL_failedCommand 1 = .ok (.iconst 0, 1) := by decide +kernel
theorem dL_failedCommand_2 : decode cL_failedCommand 2 = .ok (.aload_n 0, 1) := by decide +kernel
theorem dL_failedCommand_3 : decode cL_failedCommand 3 = .ok (.invokevirtual 152, 3) := by decide +kernel
theorem dL_failedCommand_6 : decode cL_failedCommand 6 = .ok (.i2l, 1) := by decide +kernel
theorem dL_failedCommand_7 : decode cL_failedCommand 7 = .ok (.lastore, 1) := by decide +kernel
theorem dL_failedCommand_8 : decode cL_failedCommand 8 = .ok (.goto 6, 3) := by decide +kernel
theorem dL_failedCommand_11 : decode cL_failedCommand 11 = .ok (.astore_n 2, 1) := by decide +kernel
theorem dL_failedCommand_12 : decode cL_failedCommand 12 = .ok (.iconst 1, 1) := by decide +kernel
theorem dL_failedCommand_13 : decode cL_failedCommand 13 = .ok (.ireturn, 1) := by decide +kernel
theorem dL_failedCommand_14 : decode cL_failedCommand 14 = .ok (.iconst 0, 1) := by decide +kernel
theorem dL_failedCommand_15 : decode cL_failedCommand 15 = .ok (.ireturn, 1) := by decide +kernel
theorem dL_undo_0 : decode cL_undo 0 = .ok (.aload_n 1, 1) := by decide +kernel
theorem dL_undo_1 : decode cL_undo 1 = .ok (.iconst 0, 1) := by decide +kernel
theorem dL_undo_2 : decode cL_undo 2 = .ok (.aload_n 0, 1) := by decide +kernel
theorem dL_undo_3 : decode cL_undo 3 = .ok (.invokevirtual 155, 3) := by decide +kernel
theorem dL_undo_6 : decode cL_undo 6 = .ok (.i2l, 1) := by decide +kernel
theorem dL_undo_7 : decode cL_undo 7 = .ok (.lastore, 1) := by decide +kernel
theorem dL_undo_8 : decode cL_undo 8 = .ok (.goto 6, 3) := by decide +kernel
theorem dL_undo_11 : decode cL_undo 11 = .ok (.astore_n 2, 1) := by decide +kernel
theorem dL_undo_12 : decode cL_undo 12 = .ok (.iconst 1, 1) := by decide +kernel
theorem dL_undo_13 : decode cL_undo 13 = .ok (.ireturn, 1) := by decide +kernel
theorem dL_undo_14 : decode cL_undo 14 = .ok (.iconst 0, 1) := by decide +kernel
theorem dL_undo_15 : decode cL_undo 15 = .ok (.ireturn, 1) := by decide +kernel
theorem dL_restore_0 : decode cL_restore 0 = .ok (.aload_n 1, 1) := by decide +kernel
theorem dL_restore_1 : decode cL_restore 1 = .ok (.iconst 0, 1) := by decide +kernel
theorem dL_restore_2 : decode cL_restore 2 = .ok (.aload_n 0, 1) := by decide +kernel
theorem dL_restore_3 : decode cL_restore 3 = .ok (.invokevirtual 158, 3) := by decide +kernel
theorem dL_restore_6 : decode cL_restore 6 = .ok (.i2l, 1) := by decide +kernel
theorem dL_restore_7 : decode cL_restore 7 = .ok (.lastore, 1) := by decide +kernel
theorem dL_restore_8 : decode cL_restore 8 = .ok (.goto 6, 3) := by decide +kernel
theorem dL_restore_11 : decode cL_restore 11 = .ok (.astore_n 2, 1) := by decide +kernel
theorem dL_restore_12 : decode cL_restore 12 = .ok (.iconst 1, 1) := by decide +kernel
theorem dL_restore_13 : decode cL_restore 13 = .ok (.ireturn, 1) := by decide +kernel
theorem dL_restore_14 : decode cL_restore 14 = .ok (.iconst 0, 1) := by decide +kernel
theorem dL_restore_15 : decode cL_restore 15 = .ok (.ireturn, 1) := by decide +kernel
theorem dL_law_0 : decode cL_law 0 = .ok (.new 8, 3) := by decide +kernel
theorem dL_law_3 : decode cL_law 3 = .ok (.dup, 1) := by decide +kernel
theorem dL_law_4 : decode cL_law 4 = .ok (.invokespecial 161, 3) := by decide +kernel
theorem dL_law_7 : decode cL_law 7 = .ok (.astore_n 1, 1) := by decide +kernel
theorem dL_law_8 : decode cL_law 8 = .ok (.new 162, 3) := by decide +kernel
theorem dL_law_11 : decode cL_law 11 = .ok (.dup, 1) := by decide +kernel
theorem dL_law_12 : decode cL_law 12 = .ok (.invokespecial 164, 3) := by decide +kernel
theorem dL_law_15 : decode cL_law 15 = .ok (.astore_n 2, 1) := by decide +kernel
theorem dL_law_16 : decode cL_law 16 = .ok (.iconst 1, 1) := by decide +kernel
theorem dL_law_17 : decode cL_law 17 = .ok (.newarray .long, 2) := by decide +kernel
theorem dL_law_19 : decode cL_law 19 = .ok (.astore_n 3, 1) := by decide +kernel
theorem dL_law_20 : decode cL_law 20 = .ok (.iconst 1, 1) := by decide +kernel
theorem dL_law_21 : decode cL_law 21 = .ok (.newarray .double, 2) := by decide +kernel
theorem dL_law_23 : decode cL_law 23 = .ok (.astore 4, 2) := by decide +kernel
theorem dL_law_25 : decode cL_law 25 = .ok (.iconst 0, 1) := by decide +kernel
theorem dL_law_26 : decode cL_law 26 = .ok (.istore 5, 2) := by decide +kernel
theorem dL_law_28 : decode cL_law 28 = .ok (.iload 5, 2) := by decide +kernel
theorem dL_law_30 : decode cL_law 30 = .ok (.aload_n 0, 1) := by decide +kernel
theorem dL_law_31 : decode cL_law 31 = .ok (.arraylength, 1) := by decide +kernel
theorem dL_law_32 : decode cL_law 32 = .ok (.iconst 5, 1) := by decide +kernel
theorem dL_law_33 : decode cL_law 33 = .ok (.isub, 1) := by decide +kernel
theorem dL_law_34 : decode cL_law 34 = .ok (.if_icmp .gt 2966, 3) := by decide +kernel
theorem dL_law_37 : decode cL_law 37 = .ok (.aload_n 0, 1) := by decide +kernel
theorem dL_law_38 : decode cL_law 38 = .ok (.iload 5, 2) := by decide +kernel
theorem dL_law_40 : decode cL_law 40 = .ok (.iaload, 1) := by decide +kernel
theorem dL_law_41 : decode cL_law 41 = .ok (.bipush 63, 2) := by decide +kernel
theorem dL_law_43 : decode cL_law 43 = .ok (.iand, 1) := by decide +kernel
theorem dL_law_44 : decode cL_law 44 = .ok (.tableswitch 2950 0 54 #[236, 318, 374, 466, 569, 625, 681, 749, 805, 861, 874, 930, 943, 956, 969, 982, 1038, 1094, 1150, 1230, 1305, 1361, 1417, 1480, 1555, 1625, 1693, 1761, 1817, 1830, 1843, 1856, 1900, 1956, 1969, 2025, 2039, 2053, 2123, 2167, 2223, 2279, 2335, 2400, 2478, 2491, 2547, 2603, 2659, 2717, 2761, 2805, 2849, 2893, 2906], 236) := by decide +kernel
theorem dL_law_280 : decode cL_law 280 = .ok (.aload_n 1, 1) := by decide +kernel
theorem dL_law_281 : decode cL_law 281 = .ok (.aload_n 0, 1) := by decide +kernel
theorem dL_law_282 : decode cL_law 282 = .ok (.iload 5, 2) := by decide +kernel
theorem dL_law_284 : decode cL_law 284 = .ok (.iconst 1, 1) := by decide +kernel
theorem dL_law_285 : decode cL_law 285 = .ok (.iadd, 1) := by decide +kernel
theorem dL_law_286 : decode cL_law 286 = .ok (.iaload, 1) := by decide +kernel
theorem dL_law_287 : decode cL_law 287 = .ok (.i2c, 1) := by decide +kernel
theorem dL_law_288 : decode cL_law 288 = .ok (.aload_n 0, 1) := by decide +kernel
theorem dL_law_289 : decode cL_law 289 = .ok (.iload 5, 2) := by decide +kernel
theorem dL_law_291 : decode cL_law 291 = .ok (.iconst 2, 1) := by decide +kernel
theorem dL_law_292 : decode cL_law 292 = .ok (.iadd, 1) := by decide +kernel
theorem dL_law_293 : decode cL_law 293 = .ok (.iaload, 1) := by decide +kernel
theorem dL_law_294 : decode cL_law 294 = .ok (.aload_n 0, 1) := by decide +kernel
theorem dL_law_295 : decode cL_law 295 = .ok (.iload 5, 2) := by decide +kernel
theorem dL_law_297 : decode cL_law 297 = .ok (.iconst 3, 1) := by decide +kernel
theorem dL_law_298 : decode cL_law 298 = .ok (.iadd, 1) := by decide +kernel
theorem dL_law_299 : decode cL_law 299 = .ok (.iaload, 1) := by decide +kernel
theorem dL_law_300 : decode cL_law 300 = .ok (.aload_n 3, 1) := by decide +kernel
theorem dL_law_301 : decode cL_law 301 = .ok (.invokestatic 165, 3) := by decide +kernel
theorem dL_law_304 : decode cL_law 304 = .ok (.istore 6, 2) := by decide +kernel
theorem dL_law_306 : decode cL_law 306 = .ok (.aload_n 2, 1) := by decide +kernel
theorem dL_law_307 : decode cL_law 307 = .ok (.aload_n 0, 1) := by decide +kernel
theorem dL_law_308 : decode cL_law 308 = .ok (.iload 5, 2) := by decide +kernel
theorem dL_law_310 : decode cL_law 310 = .ok (.iconst 1, 1) := by decide +kernel
theorem dL_law_311 : decode cL_law 311 = .ok (.iadd, 1) := by decide +kernel
theorem dL_law_312 : decode cL_law 312 = .ok (.iaload, 1) := by decide +kernel
theorem dL_law_313 : decode cL_law 313 = .ok (.i2c, 1) := by decide +kernel
theorem dL_law_314 : decode cL_law 314 = .ok (.aload_n 0, 1) := by decide +kernel
theorem dL_law_315 : decode cL_law 315 = .ok (.iload 5, 2) := by decide +kernel
theorem dL_law_317 : decode cL_law 317 = .ok (.iconst 2, 1) := by decide +kernel
theorem dL_law_318 : decode cL_law 318 = .ok (.iadd, 1) := by decide +kernel
theorem dL_law_319 : decode cL_law 319 = .ok (.iaload, 1) := by decide +kernel
theorem dL_law_320 : decode cL_law 320 = .ok (.aload_n 0, 1) := by decide +kernel
theorem dL_law_321 : decode cL_law 321 = .ok (.iload 5, 2) := by decide +kernel
theorem dL_law_323 : decode cL_law 323 = .ok (.iconst 3, 1) := by decide +kernel
theorem dL_law_324 : decode cL_law 324 = .ok (.iadd, 1) := by decide +kernel
theorem dL_law_325 : decode cL_law 325 = .ok (.iaload, 1) := by decide +kernel
theorem dL_law_326 : decode cL_law 326 = .ok (.invokevirtual 170, 3) := by decide +kernel
theorem dL_law_329 : decode cL_law 329 = .ok (.istore 7, 2) := by decide +kernel
theorem dL_law_331 : decode cL_law 331 = .ok (.aload_n 2, 1) := by decide +kernel
theorem dL_law_332 : decode cL_law 332 = .ok (.invokevirtual 171, 3) := by decide +kernel
theorem dL_law_335 : decode cL_law 335 = .ok (.iload 6, 2) := by decide +kernel
theorem dL_law_337 : decode cL_law 337 = .ok (.if_icmp .eq 5, 3) := by decide +kernel
theorem dL_law_340 : decode cL_law 340 = .ok (.iconst 0, 1) := by decide +kernel
theorem dL_law_341 : decode cL_law 341 = .ok (.ireturn, 1) := by decide +kernel
theorem dL_law_342 : decode cL_law 342 = .ok (.iload 6, 2) := by decide +kernel
theorem dL_law_344 : decode cL_law 344 = .ok (.ifCond .ne 15, 3) := by decide +kernel
theorem dL_law_347 : decode cL_law 347 = .ok (.aload_n 3, 1) := by decide +kernel
theorem dL_law_348 : decode cL_law 348 = .ok (.iconst 0, 1) := by decide +kernel
theorem dL_law_349 : decode cL_law 349 = .ok (.laload, 1) := by decide +kernel
theorem dL_law_350 : decode cL_law 350 = .ok (.iload 7, 2) := by decide +kernel
theorem dL_law_352 : decode cL_law 352 = .ok (.i2l, 1) := by decide +kernel
theorem dL_law_353 : decode cL_law 353 = .ok (.lcmp, 1) := by decide +kernel
theorem dL_law_354 : decode cL_law 354 = .ok (.ifCond .eq 5, 3) := by decide +kernel
theorem dL_law_357 : decode cL_law 357 = .ok (.iconst 0, 1) := by decide +kernel
theorem dL_law_358 : decode cL_law 358 = .ok (.ireturn, 1) := by decide +kernel
theorem dL_law_359 : decode cL_law 359 = .ok (.goto 2635, 3) := by decide +kernel
theorem dL_law_362 : decode cL_law 362 = .ok (.aload_n 1, 1) := by decide +kernel
theorem dL_law_363 : decode cL_law 363 = .ok (.aload_n 0, 1) := by decide +kernel
theorem dL_law_364 : decode cL_law 364 = .ok (.iload 5, 2) := by decide +kernel
theorem dL_law_366 : decode cL_law 366 = .ok (.iconst 1, 1) := by decide +kernel
theorem dL_law_367 : decode cL_law 367 = .ok (.iadd, 1) := by decide +kernel
theorem dL_law_368 : decode cL_law 368 = .ok (.iaload, 1) := by decide +kernel
theorem dL_law_369 : decode cL_law 369 = .ok (.aload_n 3, 1) := by decide +kernel
theorem dL_law_370 : decode cL_law 370 = .ok (.invokestatic 174, 3) := by decide +kernel
theorem dL_law_373 : decode cL_law 373 = .ok (.istore 6, 2) := by decide +kernel
theorem dL_law_375 : decode cL_law 375 = .ok (.aload_n 2, 1) := by decide +kernel
theorem dL_law_376 : decode cL_law 376 = .ok (.aload_n 0, 1) := by decide +kernel
theorem dL_law_377 : decode cL_law 377 = .ok (.iload 5, 2) := by decide +kernel
theorem dL_law_379 : decode cL_law 379 = .ok (.iconst 1, 1) := by decide +kernel
theorem dL_law_380 : decode cL_law 380 = .ok (.iadd, 1) := by decide +kernel
theorem dL_law_381 : decode cL_law 381 = .ok (.iaload, 1) := by decide +kernel
theorem dL_law_382 : decode cL_law 382 = .ok (.invokevirtual 177, 3) := by decide +kernel
theorem dL_law_385 : decode cL_law 385 = .ok (.istore 7, 2) := by decide +kernel
theorem dL_law_387 : decode cL_law 387 = .ok (.aload_n 2, 1) := by decide +kernel
theorem dL_law_388 : decode cL_law 388 = .ok (.invokevirtual 171, 3) := by decide +kernel
theorem dL_law_391 : decode cL_law 391 = .ok (.iload 6, 2) := by decide +kernel
theorem dL_law_393 : decode cL_law 393 = .ok (.if_icmp .eq 5, 3) := by decide +kernel
theorem dL_law_396 : decode cL_law 396 = .ok (.iconst 0, 1) := by decide +kernel
theorem dL_law_397 : decode cL_law 397 = .ok (.ireturn, 1) := by decide +kernel
theorem dL_law_398 : decode cL_law 398 = .ok (.iload 6, 2) := by decide +kernel
theorem dL_law_400 : decode cL_law 400 = .ok (.ifCond .ne 15, 3) := by decide +kernel
theorem dL_law_403 : decode cL_law 403 = .ok (.aload_n 3, 1) := by decide +kernel
theorem dL_law_404 : decode cL_law 404 = .ok (.iconst 0, 1) := by decide +kernel
theorem dL_law_405 : decode cL_law 405 = .ok (.laload, 1) := by decide +kernel
theorem dL_law_406 : decode cL_law 406 = .ok (.iload 7, 2) := by decide +kernel
theorem dL_law_408 : decode cL_law 408 = .ok (.i2l, 1) := by decide +kernel
theorem dL_law_409 : decode cL_law 409 = .ok (.lcmp, 1) := by decide +kernel
theorem dL_law_410 : decode cL_law 410 = .ok (.ifCond .eq 5, 3) := by decide +kernel
theorem dL_law_413 : decode cL_law 413 = .ok (.iconst 0, 1) := by decide +kernel
theorem dL_law_414 : decode cL_law 414 = .ok (.ireturn, 1) := by decide +kernel
theorem dL_law_415 : decode cL_law 415 = .ok (.goto 2579, 3) := by decide +kernel
theorem dL_law_418 : decode cL_law 418 = .ok (.aload_n 1, 1) := by decide +kernel
theorem dL_law_419 : decode cL_law 419 = .ok (.aload_n 0, 1) := by decide +kernel
theorem dL_law_420 : decode cL_law 420 = .ok (.iload 5, 2) := by decide +kernel
theorem dL_law_422 : decode cL_law 422 = .ok (.iconst 1, 1) := by decide +kernel
theorem dL_law_423 : decode cL_law 423 = .ok (.iadd, 1) := by decide +kernel
theorem dL_law_424 : decode cL_law 424 = .ok (.iaload, 1) := by decide +kernel
theorem dL_law_425 : decode cL_law 425 = .ok (.aload_n 0, 1) := by decide +kernel
theorem dL_law_426 : decode cL_law 426 = .ok (.iload 5, 2) := by decide +kernel
theorem dL_law_428 : decode cL_law 428 = .ok (.iconst 2, 1) := by decide +kernel
theorem dL_law_429 : decode cL_law 429 = .ok (.iadd, 1) := by decide +kernel
theorem dL_law_430 : decode cL_law 430 = .ok (.iaload, 1) := by decide +kernel
theorem dL_law_431 : decode cL_law 431 = .ok (.aload_n 0, 1) := by decide +kernel
theorem dL_law_432 : decode cL_law 432 = .ok (.iload 5, 2) := by decide +kernel
theorem dL_law_434 : decode cL_law 434 = .ok (.iconst 3, 1) := by decide +kernel
theorem dL_law_435 : decode cL_law 435 = .ok (.iadd, 1) := by decide +kernel
theorem dL_law_436 : decode cL_law 436 = .ok (.iaload, 1) := by decide +kernel
theorem dL_law_437 : decode cL_law 437 = .ok (.aload_n 0, 1) := by decide +kernel
theorem dL_law_438 : decode cL_law 438 = .ok (.iload 5, 2) := by decide +kernel
theorem dL_law_440 : decode cL_law 440 = .ok (.iconst 4, 1) := by decide +kernel
theorem dL_law_441 : decode cL_law 441 = .ok (.iadd, 1) := by decide +kernel
theorem dL_law_442 : decode cL_law 442 = .ok (.iaload, 1) := by decide +kernel
theorem dL_law_443 : decode cL_law 443 = .ok (.aload_n 3, 1) := by decide +kernel
theorem dL_law_444 : decode cL_law 444 = .ok (.invokestatic 178, 3) := by decide +kernel
theorem dL_law_447 : decode cL_law 447 = .ok (.istore 6, 2) := by decide +kernel
theorem dL_law_449 : decode cL_law 449 = .ok (.aload_n 2, 1) := by decide +kernel
theorem dL_law_450 : decode cL_law 450 = .ok (.aload_n 0, 1) := by decide +kernel
theorem dL_law_451 : decode cL_law 451 = .ok (.iload 5, 2) := by decide +kernel
theorem dL_law_453 : decode cL_law 453 = .ok (.iconst 1, 1) := by decide +kernel
theorem dL_law_454 : decode cL_law 454 = .ok (.iadd, 1) := by decide +kernel
theorem dL_law_455 : decode cL_law 455 = .ok (.iaload, 1) := by decide +kernel
theorem dL_law_456 : decode cL_law 456 = .ok (.aload_n 0, 1) := by decide +kernel
theorem dL_law_457 : decode cL_law 457 = .ok (.iload 5, 2) := by decide +kernel
theorem dL_law_459 : decode cL_law 459 = .ok (.iconst 2, 1) := by decide +kernel
theorem dL_law_460 : decode cL_law 460 = .ok (.iadd, 1) := by decide +kernel
theorem dL_law_461 : decode cL_law 461 = .ok (.iaload, 1) := by decide +kernel
theorem dL_law_462 : decode cL_law 462 = .ok (.aload_n 0, 1) := by decide +kernel
theorem dL_law_463 : decode cL_law 463 = .ok (.iload 5, 2) := by decide +kernel
theorem dL_law_465 : decode cL_law 465 = .ok (.iconst 3, 1) := by decide +kernel
theorem dL_law_466 : decode cL_law 466 = .ok (.iadd, 1) := by decide +kernel
theorem dL_law_467 : decode cL_law 467 = .ok (.iaload, 1) := by decide +kernel
theorem dL_law_468 : decode cL_law 468 = .ok (.aload_n 0, 1) := by decide +kernel
theorem dL_law_469 : decode cL_law 469 = .ok (.iload 5, 2) := by decide +kernel
theorem dL_law_471 : decode cL_law 471 = .ok (.iconst 4, 1) := by decide +kernel
theorem dL_law_472 : decode cL_law 472 = .ok (.iadd, 1) := by decide +kernel
theorem dL_law_473 : decode cL_law 473 = .ok (.iaload, 1) := by decide +kernel
theorem dL_law_474 : decode cL_law 474 = .ok (.invokevirtual 181, 3) := by decide +kernel
theorem dL_law_477 : decode cL_law 477 = .ok (.istore 7, 2) := by decide +kernel
theorem dL_law_479 : decode cL_law 479 = .ok (.aload_n 2, 1) := by decide +kernel
theorem dL_law_480 : decode cL_law 480 = .ok (.invokevirtual 171, 3) := by decide +kernel
theorem dL_law_483 : decode cL_law 483 = .ok (.iload 6, 2) := by decide +kernel
theorem dL_law_485 : decode cL_law 485 = .ok (.if_icmp .eq 5, 3) := by decide +kernel
theorem dL_law_488 : decode cL_law 488 = .ok (.iconst 0, 1) := by decide +kernel
theorem dL_law_489 : decode cL_law 489 = .ok (.ireturn, 1) := by decide +kernel
theorem dL_law_490 : decode cL_law 490 = .ok (.iload 6, 2) := by decide +kernel
theorem dL_law_492 : decode cL_law 492 = .ok (.ifCond .ne 15, 3) := by decide +kernel
theorem dL_law_495 : decode cL_law 495 = .ok (.aload_n 3, 1) := by decide +kernel
theorem dL_law_496 : decode cL_law 496 = .ok (.iconst 0, 1) := by decide +kernel
theorem dL_law_497 : decode cL_law 497 = .ok (.laload, 1) := by decide +kernel
theorem dL_law_498 : decode cL_law 498 = .ok (.iload 7, 2) := by decide +kernel
theorem dL_law_500 : decode cL_law 500 = .ok (.i2l, 1) := by decide +kernel
theorem dL_law_501 : decode cL_law 501 = .ok (.lcmp, 1) := by decide +kernel
theorem dL_law_502 : decode cL_law 502 = .ok (.ifCond .eq 5, 3) := by decide +kernel
theorem dL_law_505 : decode cL_law 505 = .ok (.iconst 0, 1) := by decide +kernel
theorem dL_law_506 : decode cL_law 506 = .ok (.ireturn, 1) := by decide +kernel
theorem dL_law_507 : decode cL_law 507 = .ok (.goto 2487, 3) := by decide +kernel
theorem dL_law_510 : decode cL_law 510 = .ok (.aload_n 1, 1) := by decide +kernel
theorem dL_law_511 : decode cL_law 511 = .ok (.aload_n 0, 1) := by decide +kernel
theorem dL_law_512 : decode cL_law 512 = .ok (.iload 5, 2) := by decide +kernel
theorem dL_law_514 : decode cL_law 514 = .ok (.iconst 1, 1) := by decide +kernel
theorem dL_law_515 : decode cL_law 515 = .ok (.iadd, 1) := by decide +kernel
theorem dL_law_516 : decode cL_law 516 = .ok (.iaload, 1) := by decide +kernel
theorem dL_law_517 : decode cL_law 517 = .ok (.aload_n 0, 1) := by decide +kernel
theorem dL_law_518 : decode cL_law 518 = .ok (.iload 5, 2) := by decide +kernel
theorem dL_law_520 : decode cL_law 520 = .ok (.iconst 2, 1) := by decide +kernel
theorem dL_law_521 : decode cL_law 521 = .ok (.iadd, 1) := by decide +kernel
theorem dL_law_522 : decode cL_law 522 = .ok (.iaload, 1) := by decide +kernel
theorem dL_law_523 : decode cL_law 523 = .ok (.aload_n 0, 1) := by decide +kernel
theorem dL_law_524 : decode cL_law 524 = .ok (.iload 5, 2) := by decide +kernel
theorem dL_law_526 : decode cL_law 526 = .ok (.iconst 3, 1) := by decide +kernel
theorem dL_law_527 : decode cL_law 527 = .ok (.iadd, 1) := by decide +kernel
theorem dL_law_528 : decode cL_law 528 = .ok (.iaload, 1) := by decide +kernel
theorem dL_law_529 : decode cL_law 529 = .ok (.ifCond .eq 7, 3) := by decide +kernel
theorem dL_law_532 : decode cL_law 532 = .ok (.iconst 1, 1) := by decide +kernel
theorem dL_law_533 : decode cL_law 533 = .ok (.goto 4, 3) := by decide +kernel
theorem dL_law_536 : decode cL_law 536 = .ok (.iconst 0, 1) := by decide +kernel
theorem dL_law_537 : decode cL_law 537 = .ok (.aload_n 3, 1) := by decide +kernel
theorem dL_law_538 : decode cL_law 538 = .ok (.invokestatic 182, 3) := by decide +kernel
theorem dL_law_541 : decode cL_law 541 = .ok (.istore 6, 2) := by decide +kernel
theorem dL_law_543 : decode cL_law 543 = .ok (.aload_n 2, 1) := by decide +kernel
theorem dL_law_544 : decode cL_law 544 = .ok (.aload_n 0, 1) := by decide +kernel
theorem dL_law_545 : decode cL_law 545 = .ok (.iload 5, 2) := by decide +kernel
theorem dL_law_547 : decode cL_law 547 = .ok (.iconst 1, 1) := by decide +kernel
theorem dL_law_548 : decode cL_law 548 = .ok (.iadd, 1) := by decide +kernel
theorem dL_law_549 : decode cL_law 549 = .ok (.iaload, 1) := by decide +kernel
theorem dL_law_550 : decode cL_law 550 = .ok (.aload_n 0, 1) := by decide +kernel
theorem dL_law_551 : decode cL_law 551 = .ok (.iload 5, 2) := by decide +kernel
theorem dL_law_553 : decode cL_law 553 = .ok (.iconst 2, 1) := by decide +kernel
theorem dL_law_554 : decode cL_law 554 = .ok (.iadd, 1) := by decide +kernel
theorem dL_law_555 : decode cL_law 555 = .ok (.iaload, 1) := by decide +kernel
theorem dL_law_556 : decode cL_law 556 = .ok (.aload_n 0, 1) := by decide +kernel
theorem dL_law_557 : decode cL_law 557 = .ok (.iload 5, 2) := by decide +kernel
theorem dL_law_559 : decode cL_law 559 = .ok (.iconst 3, 1) := by decide +kernel
theorem dL_law_560 : decode cL_law 560 = .ok (.iadd, 1) := by decide +kernel
theorem dL_law_561 : decode cL_law 561 = .ok (.iaload, 1) := by decide +kernel
theorem dL_law_562 : decode cL_law 562 = .ok (.ifCond .eq 7, 3) := by decide +kernel
theorem dL_law_565 : decode cL_law 565 = .ok (.iconst 1, 1) := by decide +kernel
theorem dL_law_566 : decode cL_law 566 = .ok (.goto 4, 3) := by decide +kernel
theorem dL_law_569 : decode cL_law 569 = .ok (.iconst 0, 1) := by decide +kernel
theorem dL_law_570 : decode cL_law 570 = .ok (.invokevirtual 185, 3) := by decide +kernel
theorem dL_law_573 : decode cL_law 573 = .ok (.istore 7, 2) := by decide +kernel
theorem dL_law_575 : decode cL_law 575 = .ok (.aload_n 2, 1) := by decide +kernel
theorem dL_law_576 : decode cL_law 576 = .ok (.invokevirtual 171, 3) := by decide +kernel
theorem dL_law_579 : decode cL_law 579 = .ok (.iload 6, 2) := by decide +kernel
theorem dL_law_581 : decode cL_law 581 = .ok (.if_icmp .eq 5, 3) := by decide +kernel
theorem dL_law_584 : decode cL_law 584 = .ok (.iconst 0, 1) := by decide +kernel
theorem dL_law_585 : decode cL_law 585 = .ok (.ireturn, 1) := by decide +kernel
theorem dL_law_586 : decode cL_law 586 = .ok (.iload 6, 2) := by decide +kernel
theorem dL_law_588 : decode cL_law 588 = .ok (.ifCond .ne 22, 3) := by decide +kernel
theorem dL_law_591 : decode cL_law 591 = .ok (.aload_n 3, 1) := by decide +kernel
theorem dL_law_592 : decode cL_law 592 = .ok (.iconst 0, 1) := by decide +kernel
theorem dL_law_593 : decode cL_law 593 = .ok (.laload, 1) := by decide +kernel
theorem dL_law_594 : decode cL_law 594 = .ok (.iload 7, 2) := by decide +kernel
theorem dL_law_596 : decode cL_law 596 = .ok (.ifCond .eq 7, 3) := by decide +kernel
theorem dL_law_599 : decode cL_law 599 = .ok (.lconst 1, 1) := by decide +kernel
theorem dL_law_600 : decode cL_law 600 = .ok (.goto 4, 3) := by decide +kernel
theorem dL_law_603 : decode cL_law 603 = .ok (.lconst 0, 1) := by decide +kernel
theorem dL_law_604 : decode cL_law 604 = .ok (.lcmp, 1) := by decide +kernel
theorem dL_law_605 : decode cL_law 605 = .ok (.ifCond .eq 5, 3) := by decide +kernel
theorem dL_law_608 : decode cL_law 608 = .ok (.iconst 0, 1) := by decide +kernel
theorem dL_law_609 : decode cL_law 609 = .ok (.ireturn, 1) := by decide +kernel
theorem dL_law_610 : decode cL_law 610 = .ok (.goto 2384, 3) := by decide +kernel
theorem dL_law_613 : decode cL_law 613 = .ok (.aload_n 1, 1) := by decide +kernel
theorem dL_law_614 : decode cL_law 614 = .ok (.aload_n 0, 1) := by decide +kernel
theorem dL_law_615 : decode cL_law 615 = .ok (.iload 5, 2) := by decide +kernel
theorem dL_law_617 : decode cL_law 617 = .ok (.iconst 1, 1) := by decide +kernel
theorem dL_law_618 : decode cL_law 618 = .ok (.iadd, 1) := by decide +kernel
theorem dL_law_619 : decode cL_law 619 = .ok (.iaload, 1) := by decide +kernel
theorem dL_law_620 : decode cL_law 620 = .ok (.aload_n 3, 1) := by decide +kernel
theorem dL_law_621 : decode cL_law 621 = .ok (.invokestatic 186, 3) := by decide +kernel
theorem dL_law_624 : decode cL_law 624 = .ok (.istore 6, 2) := by decide +kernel
theorem dL_law_626 : decode cL_law 626 = .ok (.aload_n 2, 1) := by decide +kernel
theorem dL_law_627 : decode cL_law 627 = .ok (.aload_n 0, 1) := by decide +kernel
theorem dL_law_628 : decode cL_law 628 = .ok (.iload 5, 2) := by decide +kernel
theorem dL_law_630 : decode cL_law 630 = .ok (.iconst 1, 1) := by decide +kernel
theorem dL_law_631 : decode cL_law 631 = .ok (.iadd, 1) := by decide +kernel
theorem dL_law_632 : decode cL_law 632 = .ok (.iaload, 1) := by decide +kernel
theorem dL_law_633 : decode cL_law 633 = .ok (.invokevirtual 188, 3) := by decide +kernel
theorem dL_law_636 : decode cL_law 636 = .ok (.istore 7, 2) := by decide +kernel
theorem dL_law_638 : decode cL_law 638 = .ok (.aload_n 2, 1) := by decide +kernel
theorem dL_law_639 : decode cL_law 639 = .ok (.invokevirtual 171, 3) := by decide +kernel
theorem dL_law_642 : decode cL_law 642 = .ok (.iload 6, 2) := by decide +kernel
theorem dL_law_644 : decode cL_law 644 = .ok (.if_icmp .eq 5, 3) := by decide +kernel
theorem dL_law_647 : decode cL_law 647 = .ok (.iconst 0, 1) := by decide +kernel
theorem dL_law_648 : decode cL_law 648 = .ok (.ireturn, 1) := by decide +kernel
theorem dL_law_649 : decode cL_law 649 = .ok (.iload 6, 2) := by decide +kernel
theorem dL_law_651 : decode cL_law 651 = .ok (.ifCond .ne 15, 3) := by decide +kernel
theorem dL_law_654 : decode cL_law 654 = .ok (.aload_n 3, 1) := by decide +kernel
theorem dL_law_655 : decode cL_law 655 = .ok (.iconst 0, 1) := by decide +kernel
theorem dL_law_656 : decode cL_law 656 = .ok (.laload, 1) := by decide +kernel
theorem dL_law_657 : decode cL_law 657 = .ok (.iload 7, 2) := by decide +kernel
theorem dL_law_659 : decode cL_law 659 = .ok (.i2l, 1) := by decide +kernel
theorem dL_law_660 : decode cL_law 660 = .ok (.lcmp, 1) := by decide +kernel
theorem dL_law_661 : decode cL_law 661 = .ok (.ifCond .eq 5, 3) := by decide +kernel
theorem dL_law_664 : decode cL_law 664 = .ok (.iconst 0, 1) := by decide +kernel
theorem dL_law_665 : decode cL_law 665 = .ok (.ireturn, 1) := by decide +kernel
theorem dL_law_666 : decode cL_law 666 = .ok (.goto 2328, 3) := by decide +kernel
theorem dL_law_669 : decode cL_law 669 = .ok (.aload_n 1, 1) := by decide +kernel
theorem dL_law_670 : decode cL_law 670 = .ok (.aload_n 0, 1) := by decide +kernel
theorem dL_law_671 : decode cL_law 671 = .ok (.iload 5, 2) := by decide +kernel
theorem dL_law_673 : decode cL_law 673 = .ok (.iconst 1, 1) := by decide +kernel
theorem dL_law_674 : decode cL_law 674 = .ok (.iadd, 1) := by decide +kernel
theorem dL_law_675 : decode cL_law 675 = .ok (.iaload, 1) := by decide +kernel
theorem dL_law_676 : decode cL_law 676 = .ok (.aload_n 3, 1) := by decide +kernel
theorem dL_law_677 : decode cL_law 677 = .ok (.invokestatic 189, 3) := by decide +kernel
theorem dL_law_680 : decode cL_law 680 = .ok (.istore 6, 2) := by decide +kernel
theorem dL_law_682 : decode cL_law 682 = .ok (.aload_n 2, 1) := by decide +kernel
theorem dL_law_683 : decode cL_law 683 = .ok (.aload_n 0, 1) := by decide +kernel
theorem dL_law_684 : decode cL_law 684 = .ok (.iload 5, 2) := by decide +kernel
theorem dL_law_686 : decode cL_law 686 = .ok (.iconst 1, 1) := by decide +kernel
theorem dL_law_687 : decode cL_law 687 = .ok (.iadd, 1) := by decide +kernel
theorem dL_law_688 : decode cL_law 688 = .ok (.iaload, 1) := by decide +kernel
theorem dL_law_689 : decode cL_law 689 = .ok (.invokevirtual 191, 3) := by decide +kernel
theorem dL_law_692 : decode cL_law 692 = .ok (.istore 7, 2) := by decide +kernel
theorem dL_law_694 : decode cL_law 694 = .ok (.aload_n 2, 1) := by decide +kernel
theorem dL_law_695 : decode cL_law 695 = .ok (.invokevirtual 171, 3) := by decide +kernel
theorem dL_law_698 : decode cL_law 698 = .ok (.iload 6, 2) := by decide +kernel
theorem dL_law_700 : decode cL_law 700 = .ok (.if_icmp .eq 5, 3) := by decide +kernel
theorem dL_law_703 : decode cL_law 703 = .ok (.iconst 0, 1) := by decide +kernel
theorem dL_law_704 : decode cL_law 704 = .ok (.ireturn, 1) := by decide +kernel
theorem dL_law_705 : decode cL_law 705 = .ok (.iload 6, 2) := by decide +kernel
theorem dL_law_707 : decode cL_law 707 = .ok (.ifCond .ne 15, 3) := by decide +kernel
theorem dL_law_710 : decode cL_law 710 = .ok (.aload_n 3, 1) := by decide +kernel
theorem dL_law_711 : decode cL_law 711 = .ok (.iconst 0, 1) := by decide +kernel
theorem dL_law_712 : decode cL_law 712 = .ok (.laload, 1) := by decide +kernel
theorem dL_law_713 : decode cL_law 713 = .ok (.iload 7, 2) := by decide +kernel
theorem dL_law_715 : decode cL_law 715 = .ok (.i2l, 1) := by decide +kernel
theorem dL_law_716 : decode cL_law 716 = .ok (.lcmp, 1) := by decide +kernel
theorem dL_law_717 : decode cL_law 717 = .ok (.ifCond .eq 5, 3) := by decide +kernel
theorem dL_law_720 : decode cL_law 720 = .ok (.iconst 0, 1) := by decide +kernel
theorem dL_law_721 : decode cL_law 721 = .ok (.ireturn, 1) := by decide +kernel
theorem dL_law_722 : decode cL_law 722 = .ok (.goto 2272, 3) := by decide +kernel
theorem dL_law_725 : decode cL_law 725 = .ok (.aload_n 1, 1) := by decide +kernel
theorem dL_law_726 : decode cL_law 726 = .ok (.aload_n 0, 1) := by decide +kernel
theorem dL_law_727 : decode cL_law 727 = .ok (.iload 5, 2) := by decide +kernel
theorem dL_law_729 : decode cL_law 729 = .ok (.iconst 1, 1) := by decide +kernel
theorem dL_law_730 : decode cL_law 730 = .ok (.iadd, 1) := by decide +kernel
theorem dL_law_731 : decode cL_law 731 = .ok (.iaload, 1) := by decide +kernel
theorem dL_law_732 : decode cL_law 732 = .ok (.aload_n 0, 1) := by decide +kernel
theorem dL_law_733 : decode cL_law 733 = .ok (.iload 5, 2) := by decide +kernel
theorem dL_law_735 : decode cL_law 735 = .ok (.iconst 2, 1) := by decide +kernel
theorem dL_law_736 : decode cL_law 736 = .ok (.iadd, 1) := by decide +kernel
theorem dL_law_737 : decode cL_law 737 = .ok (.iaload, 1) := by decide +kernel
theorem dL_law_738 : decode cL_law 738 = .ok (.aload_n 3, 1) := by decide +kernel
theorem dL_law_739 : decode cL_law 739 = .ok (.invokestatic 192, 3) := by decide +kernel
theorem dL_law_742 : decode cL_law 742 = .ok (.istore 6, 2) := by decide +kernel
theorem dL_law_744 : decode cL_law 744 = .ok (.aload_n 2, 1) := by decide +kernel
theorem dL_law_745 : decode cL_law 745 = .ok (.aload_n 0, 1) := by decide +kernel
theorem dL_law_746 : decode cL_law 746 = .ok (.iload 5, 2) := by decide +kernel
theorem dL_law_748 : decode cL_law 748 = .ok (.iconst 1, 1) := by decide +kernel
theorem dL_law_749 : decode cL_law 749 = .ok (.iadd, 1) := by decide +kernel
theorem dL_law_750 : decode cL_law 750 = .ok (.iaload, 1) := by decide +kernel
theorem dL_law_751 : decode cL_law 751 = .ok (.aload_n 0, 1) := by decide +kernel
theorem dL_law_752 : decode cL_law 752 = .ok (.iload 5, 2) := by decide +kernel
theorem dL_law_754 : decode cL_law 754 = .ok (.iconst 2, 1) := by decide +kernel
theorem dL_law_755 : decode cL_law 755 = .ok (.iadd, 1) := by decide +kernel
theorem dL_law_756 : decode cL_law 756 = .ok (.iaload, 1) := by decide +kernel
theorem dL_law_757 : decode cL_law 757 = .ok (.invokevirtual 195, 3) := by decide +kernel
theorem dL_law_760 : decode cL_law 760 = .ok (.istore 7, 2) := by decide +kernel
theorem dL_law_762 : decode cL_law 762 = .ok (.aload_n 2, 1) := by decide +kernel
theorem dL_law_763 : decode cL_law 763 = .ok (.invokevirtual 171, 3) := by decide +kernel
theorem dL_law_766 : decode cL_law 766 = .ok (.iload 6, 2) := by decide +kernel
theorem dL_law_768 : decode cL_law 768 = .ok (.if_icmp .eq 5, 3) := by decide +kernel
theorem dL_law_771 : decode cL_law 771 = .ok (.iconst 0, 1) := by decide +kernel
theorem dL_law_772 : decode cL_law 772 = .ok (.ireturn, 1) := by decide +kernel
theorem dL_law_773 : decode cL_law 773 = .ok (.iload 6, 2) := by decide +kernel
theorem dL_law_775 : decode cL_law 775 = .ok (.ifCond .ne 15, 3) := by decide +kernel
theorem dL_law_778 : decode cL_law 778 = .ok (.aload_n 3, 1) := by decide +kernel
theorem dL_law_779 : decode cL_law 779 = .ok (.iconst 0, 1) := by decide +kernel
theorem dL_law_780 : decode cL_law 780 = .ok (.laload, 1) := by decide +kernel
theorem dL_law_781 : decode cL_law 781 = .ok (.iload 7, 2) := by decide +kernel
theorem dL_law_783 : decode cL_law 783 = .ok (.i2l, 1) := by decide +kernel
theorem dL_law_784 : decode cL_law 784 = .ok (.lcmp, 1) := by decide +kernel
theorem dL_law_785 : decode cL_law 785 = .ok (.ifCond .eq 5, 3) := by decide +kernel
theorem dL_law_788 : decode cL_law 788 = .ok (.iconst 0, 1) := by decide +kernel
theorem dL_law_789 : decode cL_law 789 = .ok (.ireturn, 1) := by decide +kernel
theorem dL_law_790 : decode cL_law 790 = .ok (.goto 2204, 3) := by decide +kernel
theorem dL_law_793 : decode cL_law 793 = .ok (.aload_n 1, 1) := by decide +kernel
theorem dL_law_794 : decode cL_law 794 = .ok (.aload_n 0, 1) := by decide +kernel
theorem dL_law_795 : decode cL_law 795 = .ok (.iload 5, 2) := by decide +kernel
theorem dL_law_797 : decode cL_law 797 = .ok (.iconst 1, 1) := by decide +kernel
theorem dL_law_798 : decode cL_law 798 = .ok (.iadd, 1) := by decide +kernel
theorem dL_law_799 : decode cL_law 799 = .ok (.iaload, 1) := by decide +kernel
theorem dL_law_800 : decode cL_law 800 = .ok (.aload_n 3, 1) := by decide +kernel
theorem dL_law_801 : decode cL_law 801 = .ok (.invokestatic 196, 3) := by decide +kernel
theorem dL_law_804 : decode cL_law 804 = .ok (.istore 6, 2) := by decide +kernel
theorem dL_law_806 : decode cL_law 806 = .ok (.aload_n 2, 1) := by decide +kernel
theorem dL_law_807 : decode cL_law 807 = .ok (.aload_n 0, 1) := by decide +kernel
theorem dL_law_808 : decode cL_law 808 = .ok (.iload 5, 2) := by decide +kernel
theorem dL_law_810 : decode cL_law 810 = .ok (.iconst 1, 1) := by decide +kernel
theorem dL_law_811 : decode cL_law 811 = .ok (.iadd, 1) := by decide +kernel
theorem dL_law_812 : decode cL_law 812 = .ok (.iaload, 1) := by decide +kernel
theorem dL_law_813 : decode cL_law 813 = .ok (.invokevirtual 198, 3) := by decide +kernel
theorem dL_law_816 : decode cL_law 816 = .ok (.istore 7, 2) := by decide +kernel
theorem dL_law_818 : decode cL_law 818 = .ok (.aload_n 2, 1) := by decide +kernel
theorem dL_law_819 : decode cL_law 819 = .ok (.invokevirtual 171, 3) := by decide +kernel
theorem dL_law_822 : decode cL_law 822 = .ok (.iload 6, 2) := by decide +kernel
theorem dL_law_824 : decode cL_law 824 = .ok (.if_icmp .eq 5, 3) := by decide +kernel
theorem dL_law_827 : decode cL_law 827 = .ok (.iconst 0, 1) := by decide +kernel
theorem dL_law_828 : decode cL_law 828 = .ok (.ireturn, 1) := by decide +kernel
theorem dL_law_829 : decode cL_law 829 = .ok (.iload 6, 2) := by decide +kernel
theorem dL_law_831 : decode cL_law 831 = .ok (.ifCond .ne 15, 3) := by decide +kernel
theorem dL_law_834 : decode cL_law 834 = .ok (.aload_n 3, 1) := by decide +kernel
theorem dL_law_835 : decode cL_law 835 = .ok (.iconst 0, 1) := by decide +kernel
theorem dL_law_836 : decode cL_law 836 = .ok (.laload, 1) := by decide +kernel
theorem dL_law_837 : decode cL_law 837 = .ok (.iload 7, 2) := by decide +kernel
theorem dL_law_839 : decode cL_law 839 = .ok (.i2l, 1) := by decide +kernel
theorem dL_law_840 : decode cL_law 840 = .ok (.lcmp, 1) := by decide +kernel
theorem dL_law_841 : decode cL_law 841 = .ok (.ifCond .eq 5, 3) := by decide +kernel
theorem dL_law_844 : decode cL_law 844 = .ok (.iconst 0, 1) := by decide +kernel
theorem dL_law_845 : decode cL_law 845 = .ok (.ireturn, 1) := by decide +kernel
theorem dL_law_846 : decode cL_law 846 = .ok (.goto 2148, 3) := by decide +kernel
theorem dL_law_849 : decode cL_law 849 = .ok (.aload_n 1, 1) := by decide +kernel
theorem dL_law_850 : decode cL_law 850 = .ok (.aload_n 0, 1) := by decide +kernel
theorem dL_law_851 : decode cL_law 851 = .ok (.iload 5, 2) := by decide +kernel
theorem dL_law_853 : decode cL_law 853 = .ok (.iconst 1, 1) := by decide +kernel
theorem dL_law_854 : decode cL_law 854 = .ok (.iadd, 1) := by decide +kernel
theorem dL_law_855 : decode cL_law 855 = .ok (.iaload, 1) := by decide +kernel
theorem dL_law_856 : decode cL_law 856 = .ok (.aload_n 3, 1) := by decide +kernel
theorem dL_law_857 : decode cL_law 857 = .ok (.invokestatic 199, 3) := by decide +kernel
theorem dL_law_860 : decode cL_law 860 = .ok (.istore 6, 2) := by decide +kernel
theorem dL_law_862 : decode cL_law 862 = .ok (.aload_n 2, 1) := by decide +kernel
theorem dL_law_863 : decode cL_law 863 = .ok (.aload_n 0, 1) := by decide +kernel
theorem dL_law_864 : decode cL_law 864 = .ok (.iload 5, 2) := by decide +kernel
theorem dL_law_866 : decode cL_law 866 = .ok (.iconst 1, 1) := by decide +kernel
theorem dL_law_867 : decode cL_law 867 = .ok (.iadd, 1) := by decide +kernel
theorem dL_law_868 : decode cL_law 868 = .ok (.iaload, 1) := by decide +kernel
theorem dL_law_869 : decode cL_law 869 = .ok (.invokevirtual 201, 3) := by decide +kernel
theorem dL_law_872 : decode cL_law 872 = .ok (.istore 7, 2) := by decide +kernel
theorem dL_law_874 : decode cL_law 874 = .ok (.aload_n 2, 1) := by decide +kernel
theorem dL_law_875 : decode cL_law 875 = .ok (.invokevirtual 171, 3) := by decide +kernel
theorem dL_law_878 : decode cL_law 878 = .ok (.iload 6, 2) := by decide +kernel
theorem dL_law_880 : decode cL_law 880 = .ok (.if_icmp .eq 5, 3) := by decide +kernel
theorem dL_law_883 : decode cL_law 883 = .ok (.iconst 0, 1) := by decide +kernel
theorem dL_law_884 : decode cL_law 884 = .ok (.ireturn, 1) := by decide +kernel
theorem dL_law_885 : decode cL_law 885 = .ok (.iload 6, 2) := by decide +kernel
theorem dL_law_887 : decode cL_law 887 = .ok (.ifCond .ne 15, 3) := by decide +kernel
theorem dL_law_890 : decode cL_law 890 = .ok (.aload_n 3, 1) := by decide +kernel
theorem dL_law_891 : decode cL_law 891 = .ok (.iconst 0, 1) := by decide +kernel
theorem dL_law_892 : decode cL_law 892 = .ok (.laload, 1) := by decide +kernel
theorem dL_law_893 : decode cL_law 893 = .ok (.iload 7, 2) := by decide +kernel
theorem dL_law_895 : decode cL_law 895 = .ok (.i2l, 1) := by decide +kernel
theorem dL_law_896 : decode cL_law 896 = .ok (.lcmp, 1) := by decide +kernel
theorem dL_law_897 : decode cL_law 897 = .ok (.ifCond .eq 5, 3) := by decide +kernel
theorem dL_law_900 : decode cL_law 900 = .ok (.iconst 0, 1) := by decide +kernel
theorem dL_law_901 : decode cL_law 901 = .ok (.ireturn, 1) := by decide +kernel
theorem dL_law_902 : decode cL_law 902 = .ok (.goto 2092, 3) := by decide +kernel
theorem dL_law_905 : decode cL_law 905 = .ok (.aload_n 1, 1) := by decide +kernel
theorem dL_law_906 : decode cL_law 906 = .ok (.invokevirtual 202, 3) := by decide +kernel
theorem dL_law_909 : decode cL_law 909 = .ok (.aload_n 2, 1) := by decide +kernel
theorem dL_law_910 : decode cL_law 910 = .ok (.invokevirtual 205, 3) := by decide +kernel
theorem dL_law_913 : decode cL_law 913 = .ok (.if_icmp .eq 2081, 3) := by decide +kernel
theorem dL_law_916 : decode cL_law 916 = .ok (.iconst 0, 1) := by decide +kernel
theorem dL_law_917 : decode cL_law 917 = .ok (.ireturn, 1) := by decide +kernel
theorem dL_law_918 : decode cL_law 918 = .ok (.aload_n 1, 1) := by decide +kernel
theorem dL_law_919 : decode cL_law 919 = .ok (.aload_n 0, 1) := by decide +kernel
theorem dL_law_920 : decode cL_law 920 = .ok (.iload 5, 2) := by decide +kernel
theorem dL_law_922 : decode cL_law 922 = .ok (.iconst 1, 1) := by decide +kernel
theorem dL_law_923 : decode cL_law 923 = .ok (.iadd, 1) := by decide +kernel
theorem dL_law_924 : decode cL_law 924 = .ok (.iaload, 1) := by decide +kernel
theorem dL_law_925 : decode cL_law 925 = .ok (.aload_n 3, 1) := by decide +kernel
theorem dL_law_926 : decode cL_law 926 = .ok (.invokestatic 206, 3) := by decide +kernel
theorem dL_law_929 : decode cL_law 929 = .ok (.istore 6, 2) := by decide +kernel
theorem dL_law_931 : decode cL_law 931 = .ok (.aload_n 2, 1) := by decide +kernel
theorem dL_law_932 : decode cL_law 932 = .ok (.aload_n 0, 1) := by decide +kernel
theorem dL_law_933 : decode cL_law 933 = .ok (.iload 5, 2) := by decide +kernel
theorem dL_law_935 : decode cL_law 935 = .ok (.iconst 1, 1) := by decide +kernel
theorem dL_law_936 : decode cL_law 936 = .ok (.iadd, 1) := by decide +kernel
theorem dL_law_937 : decode cL_law 937 = .ok (.iaload, 1) := by decide +kernel
theorem dL_law_938 : decode cL_law 938 = .ok (.invokevirtual 208, 3) := by decide +kernel
theorem dL_law_941 : decode cL_law 941 = .ok (.istore 7, 2) := by decide +kernel
theorem dL_law_943 : decode cL_law 943 = .ok (.aload_n 2, 1) := by decide +kernel
theorem dL_law_944 : decode cL_law 944 = .ok (.invokevirtual 171, 3) := by decide +kernel
theorem dL_law_947 : decode cL_law 947 = .ok (.iload 6, 2) := by decide +kernel
theorem dL_law_949 : decode cL_law 949 = .ok (.if_icmp .eq 5, 3) := by decide +kernel
theorem dL_law_952 : decode cL_law 952 = .ok (.iconst 0, 1) := by decide +kernel
theorem dL_law_953 : decode cL_law 953 = .ok (.ireturn, 1) := by decide +kernel
theorem dL_law_954 : decode cL_law 954 = .ok (.iload 6, 2) := by decide +kernel
theorem dL_law_956 : decode cL_law 956 = .ok (.ifCond .ne 15, 3) := by decide +kernel
theorem dL_law_959 : decode cL_law 959 = .ok (.aload_n 3, 1) := by decide +kernel
theorem dL_law_960 : decode cL_law 960 = .ok (.iconst 0, 1) := by decide +kernel
theorem dL_law_961 : decode cL_law 961 = .ok (.laload, 1) := by decide +kernel
theorem dL_law_962 : decode cL_law 962 = .ok (.iload 7, 2) := by decide +kernel
theorem dL_law_964 : decode cL_law 964 = .ok (.i2l, 1) := by decide +kernel
theorem dL_law_965 : decode cL_law 965 = .ok (.lcmp, 1) := by decide +kernel
theorem dL_law_966 : decode cL_law 966 = .ok (.ifCond .eq 5, 3) := by decide +kernel
theorem dL_law_969 : decode cL_law 969 = .ok (.iconst 0, 1) := by decide +kernel
theorem dL_law_970 : decode cL_law 970 = .ok (.ireturn, 1) := by decide +kernel
theorem dL_law_971 : decode cL_law 971 = .ok (.goto 2023, 3) := by decide +kernel
theorem dL_law_974 : decode cL_law 974 = .ok (.aload_n 1, 1) := by decide +kernel
theorem dL_law_975 : decode cL_law 975 = .ok (.invokevirtual 209, 3) := by decide +kernel
theorem dL_law_978 : decode cL_law 978 = .ok (.aload_n 2, 1) := by decide +kernel
theorem dL_law_979 : decode cL_law 979 = .ok (.invokevirtual 212, 3) := by decide +kernel
theorem dL_law_982 : decode cL_law 982 = .ok (.if_icmp .eq 2012, 3) := by decide +kernel
theorem dL_law_985 : decode cL_law 985 = .ok (.iconst 0, 1) := by decide +kernel
theorem dL_law_986 : decode cL_law 986 = .ok (.ireturn, 1) := by decide +kernel
theorem dL_law_987 : decode cL_law 987 = .ok (.aload_n 1, 1) := by decide +kernel
theorem dL_law_988 : decode cL_law 988 = .ok (.invokevirtual 213, 3) := by decide +kernel
theorem dL_law_991 : decode cL_law 991 = .ok (.aload_n 2, 1) := by decide +kernel
theorem dL_law_992 : decode cL_law 992 = .ok (.invokevirtual 216, 3) := by decide +kernel
theorem dL_law_995 : decode cL_law 995 = .ok (.if_icmp .eq 1999, 3) := by decide +kernel
theorem dL_law_998 : decode cL_law 998 = .ok (.iconst 0, 1) := by decide +kernel
theorem dL_law_999 : decode cL_law 999 = .ok (.ireturn, 1) := by decide +kernel
theorem dL_law_1000 : decode cL_law 1000 = .ok (.aload_n 1, 1) := by decide +kernel
theorem dL_law_1001 : decode cL_law 1001 = .ok (.invokevirtual 217, 3) := by decide +kernel
theorem dL_law_1004 : decode cL_law 1004 = .ok (.aload_n 2, 1) := by decide +kernel
theorem dL_law_1005 : decode cL_law 1005 = .ok (.invokevirtual 220, 3) := by decide +kernel
theorem dL_law_1008 : decode cL_law 1008 = .ok (.if_icmp .eq 1986, 3) := by decide +kernel
theorem dL_law_1011 : decode cL_law 1011 = .ok (.iconst 0, 1) := by decide +kernel
theorem dL_law_1012 : decode cL_law 1012 = .ok (.ireturn, 1) := by decide +kernel
theorem dL_law_1013 : decode cL_law 1013 = .ok (.aload_n 1, 1) := by decide +kernel
theorem dL_law_1014 : decode cL_law 1014 = .ok (.invokevirtual 221, 3) := by decide +kernel
theorem dL_law_1017 : decode cL_law 1017 = .ok (.aload_n 2, 1) := by decide +kernel
theorem dL_law_1018 : decode cL_law 1018 = .ok (.invokevirtual 224, 3) := by decide +kernel
theorem dL_law_1021 : decode cL_law 1021 = .ok (.if_icmp .eq 1973, 3) := by decide +kernel
theorem dL_law_1024 : decode cL_law 1024 = .ok (.iconst 0, 1) := by decide +kernel
theorem dL_law_1025 : decode cL_law 1025 = .ok (.ireturn, 1) := by decide +kernel
theorem dL_law_1026 : decode cL_law 1026 = .ok (.aload_n 1, 1) := by decide +kernel
theorem dL_law_1027 : decode cL_law 1027 = .ok (.aload_n 0, 1) := by decide +kernel
theorem dL_law_1028 : decode cL_law 1028 = .ok (.iload 5, 2) := by decide +kernel
theorem dL_law_1030 : decode cL_law 1030 = .ok (.iconst 1, 1) := by decide +kernel
theorem dL_law_1031 : decode cL_law 1031 = .ok (.iadd, 1) := by decide +kernel
theorem dL_law_1032 : decode cL_law 1032 = .ok (.iaload, 1) := by decide +kernel
theorem dL_law_1033 : decode cL_law 1033 = .ok (.aload_n 3, 1) := by decide +kernel
theorem dL_law_1034 : decode cL_law 1034 = .ok (.invokestatic 225, 3) := by decide +kernel
theorem dL_law_1037 : decode cL_law 1037 = .ok (.istore 6, 2) := by decide +kernel
theorem dL_law_1039 : decode cL_law 1039 = .ok (.aload_n 2, 1) := by decide +kernel
theorem dL_law_1040 : decode cL_law 1040 = .ok (.aload_n 0, 1) := by decide +kernel
theorem dL_law_1041 : decode cL_law 1041 = .ok (.iload 5, 2) := by decide +kernel
theorem dL_law_1043 : decode cL_law 1043 = .ok (.iconst 1, 1) := by decide +kernel
theorem dL_law_1044 : decode cL_law 1044 = .ok (.iadd, 1) := by decide +kernel
theorem dL_law_1045 : decode cL_law 1045 = .ok (.iaload, 1) := by decide +kernel
theorem dL_law_1046 : decode cL_law 1046 = .ok (.invokevirtual 227, 3) := by decide +kernel
theorem dL_law_1049 : decode cL_law 1049 = .ok (.istore 7, 2) := by decide +kernel
theorem dL_law_1051 : decode cL_law 1051 = .ok (.aload_n 2, 1) := by decide +kernel
theorem dL_law_1052 : decode cL_law 1052 = .ok (.invokevirtual 171, 3) := by decide +kernel
theorem dL_law_1055 : decode cL_law 1055 = .ok (.iload 6, 2) := by decide +kernel
theorem dL_law_1057 : decode cL_law 1057 = .ok (.if_icmp .eq 5, 3) := by decide +kernel
theorem dL_law_1060 : decode cL_law 1060 = .ok (.iconst 0, 1) := by decide +kernel
theorem dL_law_1061 : decode cL_law 1061 = .ok (.ireturn, 1) := by decide +kernel
theorem dL_law_1062 : decode cL_law 1062 = .ok (.iload 6, 2) := by decide +kernel
theorem dL_law_1064 : decode cL_law 1064 = .ok (.ifCond .ne 15, 3) := by decide +kernel
theorem dL_law_1067 : decode cL_law 1067 = .ok (.aload_n 3, 1) := by decide +kernel
theorem dL_law_1068 : decode cL_law 1068 = .ok (.iconst 0, 1) := by decide +kernel
theorem dL_law_1069 : decode cL_law 1069 = .ok (.laload, 1) := by decide +kernel
theorem dL_law_1070 : decode cL_law 1070 = .ok (.iload 7, 2) := by decide +kernel
theorem dL_law_1072 : decode cL_law 1072 = .ok (.i2l, 1) := by decide +kernel
theorem dL_law_1073 : decode cL_law 1073 = .ok (.lcmp, 1) := by decide +kernel
theorem dL_law_1074 : decode cL_law 1074 = .ok (.ifCond .eq 5, 3) := by decide +kernel
theorem dL_law_1077 : decode cL_law 1077 = .ok (.iconst 0, 1) := by decide +kernel
theorem dL_law_1078 : decode cL_law 1078 = .ok (.ireturn, 1) := by decide +kernel
theorem dL_law_1079 : decode cL_law 1079 = .ok (.goto 1915, 3) := by decide +kernel
theorem dL_law_1082 : decode cL_law 1082 = .ok (.aload_n 1, 1) := by decide +kernel
theorem dL_law_1083 : decode cL_law 1083 = .ok (.aload_n 0, 1) := by decide +kernel
theorem dL_law_1084 : decode cL_law 1084 = .ok (.iload 5, 2) := by decide +kernel
theorem dL_law_1086 : decode cL_law 1086 = .ok (.iconst 1, 1) := by decide +kernel
theorem dL_law_1087 : decode cL_law 1087 = .ok (.iadd, 1) := by decide +kernel
theorem dL_law_1088 : decode cL_law 1088 = .ok (.iaload, 1) := by decide +kernel
theorem dL_law_1089 : decode cL_law 1089 = .ok (.aload_n 3, 1) := by decide +kernel
theorem dL_law_1090 : decode cL_law 1090 = .ok (.invokestatic 228, 3) := by decide +kernel
theorem dL_law_1093 : decode cL_law 1093 = .ok (.istore 6, 2) := by decide +kernel
theorem dL_law_1095 : decode cL_law 1095 = .ok (.aload_n 2, 1) := by decide +kernel
theorem dL_law_1096 : decode cL_law 1096 = .ok (.aload_n 0, 1) := by decide +kernel
theorem dL_law_1097 : decode cL_law 1097 = .ok (.iload 5, 2) := by decide +kernel
theorem dL_law_1099 : decode cL_law 1099 = .ok (.iconst 1, 1) := by decide +kernel
theorem dL_law_1100 : decode cL_law 1100 = .ok (.iadd, 1) := by decide +kernel
theorem dL_law_1101 : decode cL_law 1101 = .ok (.iaload, 1) := by decide +kernel
theorem dL_law_1102 : decode cL_law 1102 = .ok (.invokevirtual 230, 3) := by decide +kernel
theorem dL_law_1105 : decode cL_law 1105 = .ok (.istore 7, 2) := by decide +kernel
theorem dL_law_1107 : decode cL_law 1107 = .ok (.aload_n 2, 1) := by decide +kernel
theorem dL_law_1108 : decode cL_law 1108 = .ok (.invokevirtual 171, 3) := by decide +kernel
theorem dL_law_1111 : decode cL_law 1111 = .ok (.iload 6, 2) := by decide +kernel
theorem dL_law_1113 : decode cL_law 1113 = .ok (.if_icmp .eq 5, 3) := by decide +kernel
theorem dL_law_1116 : decode cL_law 1116 = .ok (.iconst 0, 1) := by decide +kernel
theorem dL_law_1117 : decode cL_law 1117 = .ok (.ireturn, 1) := by decide +kernel
theorem dL_law_1118 : decode cL_law 1118 = .ok (.iload 6, 2) := by decide +kernel
theorem dL_law_1120 : decode cL_law 1120 = .ok (.ifCond .ne 15, 3) := by decide +kernel
theorem dL_law_1123 : decode cL_law 1123 = .ok (.aload_n 3, 1) := by decide +kernel
theorem dL_law_1124 : decode cL_law 1124 = .ok (.iconst 0, 1) := by decide +kernel
theorem dL_law_1125 : decode cL_law 1125 = .ok (.laload, 1) := by decide +kernel
theorem dL_law_1126 : decode cL_law 1126 = .ok (.iload 7, 2) := by decide +kernel
theorem dL_law_1128 : decode cL_law 1128 = .ok (.i2l, 1) := by decide +kernel
theorem dL_law_1129 : decode cL_law 1129 = .ok (.lcmp, 1) := by decide +kernel
theorem dL_law_1130 : decode cL_law 1130 = .ok (.ifCond .eq 5, 3) := by decide +kernel
theorem dL_law_1133 : decode cL_law 1133 = .ok (.iconst 0, 1) := by decide +kernel
theorem dL_law_1134 : decode cL_law 1134 = .ok (.ireturn, 1) := by decide +kernel
theorem dL_law_1135 : decode cL_law 1135 = .ok (.goto 1859, 3) := by decide +kernel
theorem dL_law_1138 : decode cL_law 1138 = .ok (.aload_n 1, 1) := by decide +kernel
theorem dL_law_1139 : decode cL_law 1139 = .ok (.aload_n 0, 1) := by decide +kernel
theorem dL_law_1140 : decode cL_law 1140 = .ok (.iload 5, 2) := by decide +kernel
theorem dL_law_1142 : decode cL_law 1142 = .ok (.iconst 1, 1) := by decide +kernel
theorem dL_law_1143 : decode cL_law 1143 = .ok (.iadd, 1) := by decide +kernel
theorem dL_law_1144 : decode cL_law 1144 = .ok (.iaload, 1) := by decide +kernel
theorem dL_law_1145 : decode cL_law 1145 = .ok (.aload_n 3, 1) := by decide +kernel
theorem dL_law_1146 : decode cL_law 1146 = .ok (.invokestatic 231, 3) := by decide +kernel
theorem dL_law_1149 : decode cL_law 1149 = .ok (.istore 6, 2) := by decide +kernel
theorem dL_law_1151 : decode cL_law 1151 = .ok (.aload_n 2, 1) := by decide +kernel
theorem dL_law_1152 : decode cL_law 1152 = .ok (.aload_n 0, 1) := by decide +kernel
theorem dL_law_1153 : decode cL_law 1153 = .ok (.iload 5, 2) := by decide +kernel
theorem dL_law_1155 : decode cL_law 1155 = .ok (.iconst 1, 1) := by decide +kernel
theorem dL_law_1156 : decode cL_law 1156 = .ok (.iadd, 1) := by decide +kernel
theorem dL_law_1157 : decode cL_law 1157 = .ok (.iaload, 1) := by decide +kernel
theorem dL_law_1158 : decode cL_law 1158 = .ok (.invokevirtual 233, 3) := by decide +kernel
theorem dL_law_1161 : decode cL_law 1161 = .ok (.istore 7, 2) := by decide +kernel
theorem dL_law_1163 : decode cL_law 1163 = .ok (.aload_n 2, 1) := by decide +kernel
theorem dL_law_1164 : decode cL_law 1164 = .ok (.invokevirtual 171, 3) := by decide +kernel
theorem dL_law_1167 : decode cL_law 1167 = .ok (.iload 6, 2) := by decide +kernel
theorem dL_law_1169 : decode cL_law 1169 = .ok (.if_icmp .eq 5, 3) := by decide +kernel
theorem dL_law_1172 : decode cL_law 1172 = .ok (.iconst 0, 1) := by decide +kernel
theorem dL_law_1173 : decode cL_law 1173 = .ok (.ireturn, 1) := by decide +kernel
theorem dL_law_1174 : decode cL_law 1174 = .ok (.iload 6, 2) := by decide +kernel
theorem dL_law_1176 : decode cL_law 1176 = .ok (.ifCond .ne 15, 3) := by decide +kernel
theorem dL_law_1179 : decode cL_law 1179 = .ok (.aload_n 3, 1) := by decide +kernel
theorem dL_law_1180 : decode cL_law 1180 = .ok (.iconst 0, 1) := by decide +kernel
theorem dL_law_1181 : decode cL_law 1181 = .ok (.laload, 1) := by decide +kernel
theorem dL_law_1182 : decode cL_law 1182 = .ok (.iload 7, 2) := by decide +kernel
theorem dL_law_1184 : decode cL_law 1184 = .ok (.i2l, 1) := by decide +kernel
theorem dL_law_1185 : decode cL_law 1185 = .ok (.lcmp, 1) := by decide +kernel
theorem dL_law_1186 : decode cL_law 1186 = .ok (.ifCond .eq 5, 3) := by decide +kernel
theorem dL_law_1189 : decode cL_law 1189 = .ok (.iconst 0, 1) := by decide +kernel
theorem dL_law_1190 : decode cL_law 1190 = .ok (.ireturn, 1) := by decide +kernel
theorem dL_law_1191 : decode cL_law 1191 = .ok (.goto 1803, 3) := by decide +kernel
theorem dL_law_1194 : decode cL_law 1194 = .ok (.aload_n 1, 1) := by decide +kernel
theorem dL_law_1195 : decode cL_law 1195 = .ok (.aload_n 0, 1) := by decide +kernel
theorem dL_law_1196 : decode cL_law 1196 = .ok (.iload 5, 2) := by decide +kernel
theorem dL_law_1198 : decode cL_law 1198 = .ok (.iconst 1, 1) := by decide +kernel
theorem dL_law_1199 : decode cL_law 1199 = .ok (.iadd, 1) := by decide +kernel
theorem dL_law_1200 : decode cL_law 1200 = .ok (.iaload, 1) := by decide +kernel
theorem dL_law_1201 : decode cL_law 1201 = .ok (.aload_n 0, 1) := by decide +kernel
theorem dL_law_1202 : decode cL_law 1202 = .ok (.iload 5, 2) := by decide +kernel
theorem dL_law_1204 : decode cL_law 1204 = .ok (.iconst 2, 1) := by decide +kernel
theorem dL_law_1205 : decode cL_law 1205 = .ok (.iadd, 1) := by decide +kernel
theorem dL_law_1206 : decode cL_law 1206 = .ok (.iaload, 1) := by decide +kernel
theorem dL_law_1207 : decode cL_law 1207 = .ok (.aload_n 0, 1) := by decide +kernel
theorem dL_law_1208 : decode cL_law 1208 = .ok (.iload 5, 2) := by decide +kernel
theorem dL_law_1210 : decode cL_law 1210 = .ok (.iconst 3, 1) := by decide +kernel
theorem dL_law_1211 : decode cL_law 1211 = .ok (.iadd, 1) := by decide +kernel
theorem dL_law_1212 : decode cL_law 1212 = .ok (.iaload, 1) := by decide +kernel
theorem dL_law_1213 : decode cL_law 1213 = .ok (.aload_n 3, 1) := by decide +kernel
theorem dL_law_1214 : decode cL_law 1214 = .ok (.invokestatic 234, 3) := by decide +kernel
theorem dL_law_1217 : decode cL_law 1217 = .ok (.istore 6, 2) := by decide +kernel
theorem dL_law_1219 : decode cL_law 1219 = .ok (.aload_n 2, 1) := by decide +kernel
theorem dL_law_1220 : decode cL_law 1220 = .ok (.aload_n 0, 1) := by decide +kernel
theorem dL_law_1221 : decode cL_law 1221 = .ok (.iload 5, 2) := by decide +kernel
theorem dL_law_1223 : decode cL_law 1223 = .ok (.iconst 1, 1) := by decide +kernel
theorem dL_law_1224 : decode cL_law 1224 = .ok (.iadd, 1) := by decide +kernel
theorem dL_law_1225 : decode cL_law 1225 = .ok (.iaload, 1) := by decide +kernel
theorem dL_law_1226 : decode cL_law 1226 = .ok (.aload_n 0, 1) := by decide +kernel
theorem dL_law_1227 : decode cL_law 1227 = .ok (.iload 5, 2) := by decide +kernel
theorem dL_law_1229 : decode cL_law 1229 = .ok (.iconst 2, 1) := by decide +kernel
theorem dL_law_1230 : decode cL_law 1230 = .ok (.iadd, 1) := by decide +kernel
theorem dL_law_1231 : decode cL_law 1231 = .ok (.iaload, 1) := by decide +kernel
theorem dL_law_1232 : decode cL_law 1232 = .ok (.aload_n 0, 1) := by decide +kernel
theorem dL_law_1233 : decode cL_law 1233 = .ok (.iload 5, 2) := by decide +kernel
theorem dL_law_1235 : decode cL_law 1235 = .ok (.iconst 3, 1) := by decide +kernel
theorem dL_law_1236 : decode cL_law 1236 = .ok (.iadd, 1) := by decide +kernel
theorem dL_law_1237 : decode cL_law 1237 = .ok (.iaload, 1) := by decide +kernel
theorem dL_law_1238 : decode cL_law 1238 = .ok (.invokevirtual 237, 3) := by decide +kernel
theorem dL_law_1241 : decode cL_law 1241 = .ok (.istore 7, 2) := by decide +kernel
theorem dL_law_1243 : decode cL_law 1243 = .ok (.aload_n 2, 1) := by decide +kernel
theorem dL_law_1244 : decode cL_law 1244 = .ok (.invokevirtual 171, 3) := by decide +kernel
theorem dL_law_1247 : decode cL_law 1247 = .ok (.iload 6, 2) := by decide +kernel
theorem dL_law_1249 : decode cL_law 1249 = .ok (.if_icmp .eq 5, 3) := by decide +kernel
theorem dL_law_1252 : decode cL_law 1252 = .ok (.iconst 0, 1) := by decide +kernel
theorem dL_law_1253 : decode cL_law 1253 = .ok (.ireturn, 1) := by decide +kernel
theorem dL_law_1254 : decode cL_law 1254 = .ok (.iload 6, 2) := by decide +kernel
theorem dL_law_1256 : decode cL_law 1256 = .ok (.ifCond .ne 15, 3) := by decide +kernel
theorem dL_law_1259 : decode cL_law 1259 = .ok (.aload_n 3, 1) := by decide +kernel
theorem dL_law_1260 : decode cL_law 1260 = .ok (.iconst 0, 1) := by decide +kernel
theorem dL_law_1261 : decode cL_law 1261 = .ok (.laload, 1) := by decide +kernel
theorem dL_law_1262 : decode cL_law 1262 = .ok (.iload 7, 2) := by decide +kernel
theorem dL_law_1264 : decode cL_law 1264 = .ok (.i2l, 1) := by decide +kernel
theorem dL_law_1265 : decode cL_law 1265 = .ok (.lcmp, 1) := by decide +kernel
theorem dL_law_1266 : decode cL_law 1266 = .ok (.ifCond .eq 5, 3) := by decide +kernel
theorem dL_law_1269 : decode cL_law 1269 = .ok (.iconst 0, 1) := by decide +kernel
theorem dL_law_1270 : decode cL_law 1270 = .ok (.ireturn, 1) := by decide +kernel
theorem dL_law_1271 : decode cL_law 1271 = .ok (.goto 1723, 3) := by decide +kernel
theorem dL_law_1274 : decode cL_law 1274 = .ok (.aload_n 1, 1) := by decide +kernel
theorem dL_law_1275 : decode cL_law 1275 = .ok (.aload_n 0, 1) := by decide +kernel
theorem dL_law_1276 : decode cL_law 1276 = .ok (.iload 5, 2) := by decide +kernel
theorem dL_law_1278 : decode cL_law 1278 = .ok (.iconst 1, 1) := by decide +kernel
theorem dL_law_1279 : decode cL_law 1279 = .ok (.iadd, 1) := by decide +kernel
theorem dL_law_1280 : decode cL_law 1280 = .ok (.iaload, 1) := by decide +kernel
theorem dL_law_1281 : decode cL_law 1281 = .ok (.aload_n 0, 1) := by decide +kernel
theorem dL_law_1282 : decode cL_law 1282 = .ok (.iload 5, 2) := by decide +kernel
theorem dL_law_1284 : decode cL_law 1284 = .ok (.iconst 2, 1) := by decide +kernel
theorem dL_law_1285 : decode cL_law 1285 = .ok (.iadd, 1) := by decide +kernel
theorem dL_law_1286 : decode cL_law 1286 = .ok (.iaload, 1) := by decide +kernel
theorem dL_law_1287 : decode cL_law 1287 = .ok (.aload_n 3, 1) := by decide +kernel
theorem dL_law_1288 : decode cL_law 1288 = .ok (.invokestatic 238, 3) := by decide +kernel
theorem dL_law_1291 : decode cL_law 1291 = .ok (.istore 6, 2) := by decide +kernel
theorem dL_law_1293 : decode cL_law 1293 = .ok (.aload_n 2, 1) := by decide +kernel
theorem dL_law_1294 : decode cL_law 1294 = .ok (.aload_n 0, 1) := by decide +kernel
theorem dL_law_1295 : decode cL_law 1295 = .ok (.iload 5, 2) := by decide +kernel
theorem dL_law_1297 : decode cL_law 1297 = .ok (.iconst 1, 1) := by decide +kernel
theorem dL_law_1298 : decode cL_law 1298 = .ok (.iadd, 1) := by decide +kernel
theorem dL_law_1299 : decode cL_law 1299 = .ok (.iaload, 1) := by decide +kernel
theorem dL_law_1300 : decode cL_law 1300 = .ok (.aload_n 0, 1) := by decide +kernel
theorem dL_law_1301 : decode cL_law 1301 = .ok (.iload 5, 2) := by decide +kernel
theorem dL_law_1303 : decode cL_law 1303 = .ok (.iconst 2, 1) := by decide +kernel
theorem dL_law_1304 : decode cL_law 1304 = .ok (.iadd, 1) := by decide +kernel
theorem dL_law_1305 : decode cL_law 1305 = .ok (.iaload, 1) := by decide +kernel
theorem dL_law_1306 : decode cL_law 1306 = .ok (.invokevirtual 240, 3) := by decide +kernel
theorem dL_law_1309 : decode cL_law 1309 = .ok (.istore 7, 2) := by decide +kernel
theorem dL_law_1311 : decode cL_law 1311 = .ok (.aload_n 2, 1) := by decide +kernel
theorem dL_law_1312 : decode cL_law 1312 = .ok (.invokevirtual 171, 3) := by decide +kernel
theorem dL_law_1315 : decode cL_law 1315 = .ok (.iload 6, 2) := by decide +kernel
theorem dL_law_1317 : decode cL_law 1317 = .ok (.if_icmp .eq 5, 3) := by decide +kernel
theorem dL_law_1320 : decode cL_law 1320 = .ok (.iconst 0, 1) := by decide +kernel
theorem dL_law_1321 : decode cL_law 1321 = .ok (.ireturn, 1) := by decide +kernel
theorem dL_law_1322 : decode cL_law 1322 = .ok (.iload 6, 2) := by decide +kernel
theorem dL_law_1324 : decode cL_law 1324 = .ok (.ifCond .ne 22, 3) := by decide +kernel
theorem dL_law_1327 : decode cL_law 1327 = .ok (.aload_n 3, 1) := by decide +kernel
theorem dL_law_1328 : decode cL_law 1328 = .ok (.iconst 0, 1) := by decide +kernel
theorem dL_law_1329 : decode cL_law 1329 = .ok (.laload, 1) := by decide +kernel
theorem dL_law_1330 : decode cL_law 1330 = .ok (.iload 7, 2) := by decide +kernel
theorem dL_law_1332 : decode cL_law 1332 = .ok (.ifCond .eq 7, 3) := by decide +kernel
theorem dL_law_1335 : decode cL_law 1335 = .ok (.lconst 1, 1) := by decide +kernel
theorem dL_law_1336 : decode cL_law 1336 = .ok (.goto 4, 3) := by decide +kernel
theorem dL_law_1339 : decode cL_law 1339 = .ok (.lconst 0, 1) := by decide +kernel
theorem dL_law_1340 : decode cL_law 1340 = .ok (.lcmp, 1) := by decide +kernel
theorem dL_law_1341 : decode cL_law 1341 = .ok (.ifCond .eq 5, 3) := by decide +kernel
theorem dL_law_1344 : decode cL_law 1344 = .ok (.iconst 0, 1) := by decide +kernel
theorem dL_law_1345 : decode cL_law 1345 = .ok (.ireturn, 1) := by decide +kernel
theorem dL_law_1346 : decode cL_law 1346 = .ok (.goto 1648, 3) := by decide +kernel
theorem dL_law_1349 : decode cL_law 1349 = .ok (.aload_n 1, 1) := by decide +kernel
theorem dL_law_1350 : decode cL_law 1350 = .ok (.aload_n 0, 1) := by decide +kernel
theorem dL_law_1351 : decode cL_law 1351 = .ok (.iload 5, 2) := by decide +kernel
theorem dL_law_1353 : decode cL_law 1353 = .ok (.iconst 1, 1) := by decide +kernel
theorem dL_law_1354 : decode cL_law 1354 = .ok (.iadd, 1) := by decide +kernel
theorem dL_law_1355 : decode cL_law 1355 = .ok (.iaload, 1) := by decide +kernel
theorem dL_law_1356 : decode cL_law 1356 = .ok (.aload_n 3, 1) := by decide +kernel
theorem dL_law_1357 : decode cL_law 1357 = .ok (.invokestatic 241, 3) := by decide +kernel
theorem dL_law_1360 : decode cL_law 1360 = .ok (.istore 6, 2) := by decide +kernel
theorem dL_law_1362 : decode cL_law 1362 = .ok (.aload_n 2, 1) := by decide +kernel
theorem dL_law_1363 : decode cL_law 1363 = .ok (.aload_n 0, 1) := by decide +kernel
theorem dL_law_1364 : decode cL_law 1364 = .ok (.iload 5, 2) := by decide +kernel
theorem dL_law_1366 : decode cL_law 1366 = .ok (.iconst 1, 1) := by decide +kernel
theorem dL_law_1367 : decode cL_law 1367 = .ok (.iadd, 1) := by decide +kernel
theorem dL_law_1368 : decode cL_law 1368 = .ok (.iaload, 1) := by decide +kernel
theorem dL_law_1369 : decode cL_law 1369 = .ok (.invokevirtual 243, 3) := by decide +kernel
theorem dL_law_1372 : decode cL_law 1372 = .ok (.istore 7, 2) := by decide +kernel
theorem dL_law_1374 : decode cL_law 1374 = .ok (.aload_n 2, 1) := by decide +kernel
theorem dL_law_1375 : decode cL_law 1375 = .ok (.invokevirtual 171, 3) := by decide +kernel
theorem dL_law_1378 : decode cL_law 1378 = .ok (.iload 6, 2) := by decide +kernel
theorem dL_law_1380 : decode cL_law 1380 = .ok (.if_icmp .eq 5, 3) := by decide +kernel
theorem dL_law_1383 : decode cL_law 1383 = .ok (.iconst 0, 1) := by decide +kernel
theorem dL_law_1384 : decode cL_law 1384 = .ok (.ireturn, 1) := by decide +kernel
theorem dL_law_1385 : decode cL_law 1385 = .ok (.iload 6, 2) := by decide +kernel
theorem dL_law_1387 : decode cL_law 1387 = .ok (.ifCond .ne 15, 3) := by decide +kernel
theorem dL_law_1390 : decode cL_law 1390 = .ok (.aload_n 3, 1) := by decide +kernel
theorem dL_law_1391 : decode cL_law 1391 = .ok (.iconst 0, 1) := by decide +kernel
theorem dL_law_1392 : decode cL_law 1392 = .ok (.laload, 1) := by decide +kernel
theorem dL_law_1393 : decode cL_law 1393 = .ok (.iload 7, 2) := by decide +kernel
theorem dL_law_1395 : decode cL_law 1395 = .ok (.i2l, 1) := by decide +kernel
theorem dL_law_1396 : decode cL_law 1396 = .ok (.lcmp, 1) := by decide +kernel
theorem dL_law_1397 : decode cL_law 1397 = .ok (.ifCond .eq 5, 3) := by decide +kernel
theorem dL_law_1400 : decode cL_law 1400 = .ok (.iconst 0, 1) := by decide +kernel
theorem dL_law_1401 : decode cL_law 1401 = .ok (.ireturn, 1) := by decide +kernel
theorem dL_law_1402 : decode cL_law 1402 = .ok (.goto 1592, 3) := by decide +kernel
theorem dL_law_1405 : decode cL_law 1405 = .ok (.aload_n 1, 1) := by decide +kernel
theorem dL_law_1406 : decode cL_law 1406 = .ok (.aload_n 0, 1) := by decide +kernel
theorem dL_law_1407 : decode cL_law 1407 = .ok (.iload 5, 2) := by decide +kernel
theorem dL_law_1409 : decode cL_law 1409 = .ok (.iconst 1, 1) := by decide +kernel
theorem dL_law_1410 : decode cL_law 1410 = .ok (.iadd, 1) := by decide +kernel
theorem dL_law_1411 : decode cL_law 1411 = .ok (.iaload, 1) := by decide +kernel
theorem dL_law_1412 : decode cL_law 1412 = .ok (.aload_n 3, 1) := by decide +kernel
theorem dL_law_1413 : decode cL_law 1413 = .ok (.invokestatic 244, 3) := by decide +kernel
theorem dL_law_1416 : decode cL_law 1416 = .ok (.istore 6, 2) := by decide +kernel
theorem dL_law_1418 : decode cL_law 1418 = .ok (.aload_n 2, 1) := by decide +kernel
theorem dL_law_1419 : decode cL_law 1419 = .ok (.aload_n 0, 1) := by decide +kernel
theorem dL_law_1420 : decode cL_law 1420 = .ok (.iload 5, 2) := by decide +kernel
theorem dL_law_1422 : decode cL_law 1422 = .ok (.iconst 1, 1) := by decide +kernel
theorem dL_law_1423 : decode cL_law 1423 = .ok (.iadd, 1) := by decide +kernel
theorem dL_law_1424 : decode cL_law 1424 = .ok (.iaload, 1) := by decide +kernel
theorem dL_law_1425 : decode cL_law 1425 = .ok (.invokevirtual 246, 3) := by decide +kernel
theorem dL_law_1428 : decode cL_law 1428 = .ok (.istore 7, 2) := by decide +kernel
theorem dL_law_1430 : decode cL_law 1430 = .ok (.aload_n 2, 1) := by decide +kernel
theorem dL_law_1431 : decode cL_law 1431 = .ok (.invokevirtual 171, 3) := by decide +kernel
theorem dL_law_1434 : decode cL_law 1434 = .ok (.iload 6, 2) := by decide +kernel
theorem dL_law_1436 : decode cL_law 1436 = .ok (.if_icmp .eq 5, 3) := by decide +kernel
theorem dL_law_1439 : decode cL_law 1439 = .ok (.iconst 0, 1) := by decide +kernel
theorem dL_law_1440 : decode cL_law 1440 = .ok (.ireturn, 1) := by decide +kernel
theorem dL_law_1441 : decode cL_law 1441 = .ok (.iload 6, 2) := by decide +kernel
theorem dL_law_1443 : decode cL_law 1443 = .ok (.ifCond .ne 15, 3) := by decide +kernel
theorem dL_law_1446 : decode cL_law 1446 = .ok (.aload_n 3, 1) := by decide +kernel
theorem dL_law_1447 : decode cL_law 1447 = .ok (.iconst 0, 1) := by decide +kernel
theorem dL_law_1448 : decode cL_law 1448 = .ok (.laload, 1) := by decide +kernel
theorem dL_law_1449 : decode cL_law 1449 = .ok (.iload 7, 2) := by decide +kernel
theorem dL_law_1451 : decode cL_law 1451 = .ok (.i2l, 1) := by decide +kernel
theorem dL_law_1452 : decode cL_law 1452 = .ok (.lcmp, 1) := by decide +kernel
theorem dL_law_1453 : decode cL_law 1453 = .ok (.ifCond .eq 5, 3) := by decide +kernel
theorem dL_law_1456 : decode cL_law 1456 = .ok (.iconst 0, 1) := by decide +kernel
theorem dL_law_1457 : decode cL_law 1457 = .ok (.ireturn, 1) := by decide +kernel
theorem dL_law_1458 : decode cL_law 1458 = .ok (.goto 1536, 3) := by decide +kernel
theorem dL_law_1461 : decode cL_law 1461 = .ok (.aload_n 1, 1) := by decide +kernel
theorem dL_law_1462 : decode cL_law 1462 = .ok (.aload_n 0, 1) := by decide +kernel
theorem dL_law_1463 : decode cL_law 1463 = .ok (.iload 5, 2) := by decide +kernel
theorem dL_law_1465 : decode cL_law 1465 = .ok (.iconst 1, 1) := by decide +kernel
theorem dL_law_1466 : decode cL_law 1466 = .ok (.iadd, 1) := by decide +kernel
theorem dL_law_1467 : decode cL_law 1467 = .ok (.iaload, 1) := by decide +kernel
theorem dL_law_1468 : decode cL_law 1468 = .ok (.aload_n 3, 1) := by decide +kernel
theorem dL_law_1469 : decode cL_law 1469 = .ok (.invokestatic 247, 3) := by decide +kernel
theorem dL_law_1472 : decode cL_law 1472 = .ok (.istore 6, 2) := by decide +kernel
theorem dL_law_1474 : decode cL_law 1474 = .ok (.aload_n 2, 1) := by decide +kernel
theorem dL_law_1475 : decode cL_law 1475 = .ok (.aload_n 0, 1) := by decide +kernel
theorem dL_law_1476 : decode cL_law 1476 = .ok (.iload 5, 2) := by decide +kernel
theorem dL_law_1478 : decode cL_law 1478 = .ok (.iconst 1, 1) := by decide +kernel
theorem dL_law_1479 : decode cL_law 1479 = .ok (.iadd, 1) := by decide +kernel
theorem dL_law_1480 : decode cL_law 1480 = .ok (.iaload, 1) := by decide +kernel
theorem dL_law_1481 : decode cL_law 1481 = .ok (.invokevirtual 249, 3) := by decide +kernel
theorem dL_law_1484 : decode cL_law 1484 = .ok (.istore 7, 2) := by decide +kernel
theorem dL_law_1486 : decode cL_law 1486 = .ok (.aload_n 2, 1) := by decide +kernel
theorem dL_law_1487 : decode cL_law 1487 = .ok (.invokevirtual 171, 3) := by decide +kernel
theorem dL_law_1490 : decode cL_law 1490 = .ok (.iload 6, 2) := by decide +kernel
theorem dL_law_1492 : decode cL_law 1492 = .ok (.if_icmp .eq 5, 3) := by decide +kernel
theorem dL_law_1495 : decode cL_law 1495 = .ok (.iconst 0, 1) := by decide +kernel
theorem dL_law_1496 : decode cL_law 1496 = .ok (.ireturn, 1) := by decide +kernel
theorem dL_law_1497 : decode cL_law 1497 = .ok (.iload 6, 2) := by decide +kernel
theorem dL_law_1499 : decode cL_law 1499 = .ok (.ifCond .ne 22, 3) := by decide +kernel
theorem dL_law_1502 : decode cL_law 1502 = .ok (.aload_n 3, 1) := by decide +kernel
theorem dL_law_1503 : decode cL_law 1503 = .ok (.iconst 0, 1) := by decide +kernel
theorem dL_law_1504 : decode cL_law 1504 = .ok (.laload, 1) := by decide +kernel
theorem dL_law_1505 : decode cL_law 1505 = .ok (.iload 7, 2) := by decide +kernel
theorem dL_law_1507 : decode cL_law 1507 = .ok (.ifCond .eq 7, 3) := by decide +kernel
theorem dL_law_1510 : decode cL_law 1510 = .ok (.lconst 1, 1) := by decide +kernel
theorem dL_law_1511 : decode cL_law 1511 = .ok (.goto 4, 3) := by decide +kernel
theorem dL_law_1514 : decode cL_law 1514 = .ok (.lconst 0, 1) := by decide +kernel
theorem dL_law_1515 : decode cL_law 1515 = .ok (.lcmp, 1) := by decide +kernel
theorem dL_law_1516 : decode cL_law 1516 = .ok (.ifCond .eq 5, 3) := by decide +kernel
theorem dL_law_1519 : decode cL_law 1519 = .ok (.iconst 0, 1) := by decide +kernel
theorem dL_law_1520 : decode cL_law 1520 = .ok (.ireturn, 1) := by decide +kernel
theorem dL_law_1521 : decode cL_law 1521 = .ok (.goto 1473, 3) := by decide +kernel
theorem dL_law_1524 : decode cL_law 1524 = .ok (.aload_n 1, 1) := by decide +kernel
theorem dL_law_1525 : decode cL_law 1525 = .ok (.aload_n 0, 1) := by decide +kernel
theorem dL_law_1526 : decode cL_law 1526 = .ok (.iload 5, 2) := by decide +kernel
theorem dL_law_1528 : decode cL_law 1528 = .ok (.iconst 1, 1) := by decide +kernel
theorem dL_law_1529 : decode cL_law 1529 = .ok (.iadd, 1) := by decide +kernel
theorem dL_law_1530 : decode cL_law 1530 = .ok (.iaload, 1) := by decide +kernel
theorem dL_law_1531 : decode cL_law 1531 = .ok (.aload_n 0, 1) := by decide +kernel
theorem dL_law_1532 : decode cL_law 1532 = .ok (.iload 5, 2) := by decide +kernel
theorem dL_law_1534 : decode cL_law 1534 = .ok (.iconst 2, 1) := by decide +kernel
theorem dL_law_1535 : decode cL_law 1535 = .ok (.iadd, 1) := by decide +kernel
theorem dL_law_1536 : decode cL_law 1536 = .ok (.iaload, 1) := by decide +kernel
theorem dL_law_1537 : decode cL_law 1537 = .ok (.aload_n 3, 1) := by decide +kernel
theorem dL_law_1538 : decode cL_law 1538 = .ok (.invokestatic 250, 3) := by decide +kernel
theorem dL_law_1541 : decode cL_law 1541 = .ok (.istore 6, 2) := by decide +kernel
theorem dL_law_1543 : decode cL_law 1543 = .ok (.aload_n 2, 1) := by decide +kernel
theorem dL_law_1544 : decode cL_law 1544 = .ok (.aload_n 0, 1) := by decide +kernel
theorem dL_law_1545 : decode cL_law 1545 = .ok (.iload 5, 2) := by decide +kernel
theorem dL_law_1547 : decode cL_law 1547 = .ok (.iconst 1, 1) := by decide +kernel
theorem dL_law_1548 : decode cL_law 1548 = .ok (.iadd, 1) := by decide +kernel
theorem dL_law_1549 : decode cL_law 1549 = .ok (.iaload, 1) := by decide +kernel
theorem dL_law_1550 : decode cL_law 1550 = .ok (.aload_n 0, 1) := by decide +kernel
theorem dL_law_1551 : decode cL_law 1551 = .ok (.iload 5, 2) := by decide +kernel
theorem dL_law_1553 : decode cL_law 1553 = .ok (.iconst 2, 1) := by decide +kernel
theorem dL_law_1554 : decode cL_law 1554 = .ok (.iadd, 1) := by decide +kernel
theorem dL_law_1555 : decode cL_law 1555 = .ok (.iaload, 1) := by decide +kernel
theorem dL_law_1556 : decode cL_law 1556 = .ok (.invokevirtual 252, 3) := by decide +kernel
theorem dL_law_1559 : decode cL_law 1559 = .ok (.istore 7, 2) := by decide +kernel
theorem dL_law_1561 : decode cL_law 1561 = .ok (.aload_n 2, 1) := by decide +kernel
theorem dL_law_1562 : decode cL_law 1562 = .ok (.invokevirtual 171, 3) := by decide +kernel
theorem dL_law_1565 : decode cL_law 1565 = .ok (.iload 6, 2) := by decide +kernel
theorem dL_law_1567 : decode cL_law 1567 = .ok (.if_icmp .eq 5, 3) := by decide +kernel
theorem dL_law_1570 : decode cL_law 1570 = .ok (.iconst 0, 1) := by decide +kernel
theorem dL_law_1571 : decode cL_law 1571 = .ok (.ireturn, 1) := by decide +kernel
theorem dL_law_1572 : decode cL_law 1572 = .ok (.iload 6, 2) := by decide +kernel
theorem dL_law_1574 : decode cL_law 1574 = .ok (.ifCond .ne 22, 3) := by decide +kernel
theorem dL_law_1577 : decode cL_law 1577 = .ok (.aload_n 3, 1) := by decide +kernel
theorem dL_law_1578 : decode cL_law 1578 = .ok (.iconst 0, 1) := by decide +kernel
theorem dL_law_1579 : decode cL_law 1579 = .ok (.laload, 1) := by decide +kernel
theorem dL_law_1580 : decode cL_law 1580 = .ok (.iload 7, 2) := by decide +kernel
theorem dL_law_1582 : decode cL_law 1582 = .ok (.ifCond .eq 7, 3) := by decide +kernel
theorem dL_law_1585 : decode cL_law 1585 = .ok (.lconst 1, 1) := by decide +kernel
theorem dL_law_1586 : decode cL_law 1586 = .ok (.goto 4, 3) := by decide +kernel
theorem dL_law_1589 : decode cL_law 1589 = .ok (.lconst 0, 1) := by decide +kernel
theorem dL_law_1590 : decode cL_law 1590 = .ok (.lcmp, 1) := by decide +kernel
theorem dL_law_1591 : decode cL_law 1591 = .ok (.ifCond .eq 5, 3) := by decide +kernel
theorem dL_law_1594 : decode cL_law 1594 = .ok (.iconst 0, 1) := by decide +kernel
theorem dL_law_1595 : decode cL_law 1595 = .ok (.ireturn, 1) := by decide +kernel
theorem dL_law_1596 : decode cL_law 1596 = .ok (.goto 1398, 3) := by decide +kernel
theorem dL_law_1599 : decode cL_law 1599 = .ok (.aload_n 1, 1) := by decide +kernel
theorem dL_law_1600 : decode cL_law 1600 = .ok (.aload_n 0, 1) := by decide +kernel
theorem dL_law_1601 : decode cL_law 1601 = .ok (.iload 5, 2) := by decide +kernel
theorem dL_law_1603 : decode cL_law 1603 = .ok (.iconst 1, 1) := by decide +kernel
theorem dL_law_1604 : decode cL_law 1604 = .ok (.iadd, 1) := by decide +kernel
theorem dL_law_1605 : decode cL_law 1605 = .ok (.iaload, 1) := by decide +kernel
theorem dL_law_1606 : decode cL_law 1606 = .ok (.i2c, 1) := by decide +kernel
theorem dL_law_1607 : decode cL_law 1607 = .ok (.aload_n 0, 1) := by decide +kernel
theorem dL_law_1608 : decode cL_law 1608 = .ok (.iload 5, 2) := by decide +kernel
theorem dL_law_1610 : decode cL_law 1610 = .ok (.iconst 2, 1) := by decide +kernel
theorem dL_law_1611 : decode cL_law 1611 = .ok (.iadd, 1) := by decide +kernel
theorem dL_law_1612 : decode cL_law 1612 = .ok (.iaload, 1) := by decide +kernel
theorem dL_law_1613 : decode cL_law 1613 = .ok (.aload_n 3, 1) := by decide +kernel
theorem dL_law_1614 : decode cL_law 1614 = .ok (.invokestatic 253, 3) := by decide +kernel
theorem dL_law_1617 : decode cL_law 1617 = .ok (.istore 6, 2) := by decide +kernel
theorem dL_law_1619 : decode cL_law 1619 = .ok (.aload_n 2, 1) := by decide +kernel
theorem dL_law_1620 : decode cL_law 1620 = .ok (.aload_n 0, 1) := by decide +kernel
theorem dL_law_1621 : decode cL_law 1621 = .ok (.iload 5, 2) := by decide +kernel
theorem dL_law_1623 : decode cL_law 1623 = .ok (.iconst 1, 1) := by decide +kernel
theorem dL_law_1624 : decode cL_law 1624 = .ok (.iadd, 1) := by decide +kernel
theorem dL_law_1625 : decode cL_law 1625 = .ok (.iaload, 1) := by decide +kernel
theorem dL_law_1626 : decode cL_law 1626 = .ok (.i2c, 1) := by decide +kernel
theorem dL_law_1627 : decode cL_law 1627 = .ok (.aload_n 0, 1) := by decide +kernel
theorem dL_law_1628 : decode cL_law 1628 = .ok (.iload 5, 2) := by decide +kernel
theorem dL_law_1630 : decode cL_law 1630 = .ok (.iconst 2, 1) := by decide +kernel
theorem dL_law_1631 : decode cL_law 1631 = .ok (.iadd, 1) := by decide +kernel
theorem dL_law_1632 : decode cL_law 1632 = .ok (.iaload, 1) := by decide +kernel
theorem dL_law_1633 : decode cL_law 1633 = .ok (.invokevirtual 256, 3) := by decide +kernel
theorem dL_law_1636 : decode cL_law 1636 = .ok (.istore 7, 2) := by decide +kernel
theorem dL_law_1638 : decode cL_law 1638 = .ok (.aload_n 2, 1) := by decide +kernel
theorem dL_law_1639 : decode cL_law 1639 = .ok (.invokevirtual 171, 3) := by decide +kernel
theorem dL_law_1642 : decode cL_law 1642 = .ok (.iload 6, 2) := by decide +kernel
theorem dL_law_1644 : decode cL_law 1644 = .ok (.if_icmp .eq 5, 3) := by decide +kernel
theorem dL_law_1647 : decode cL_law 1647 = .ok (.iconst 0, 1) := by decide +kernel
theorem dL_law_1648 : decode cL_law 1648 = .ok (.ireturn, 1) := by decide +kernel
theorem dL_law_1649 : decode cL_law 1649 = .ok (.iload 6, 2) := by decide +kernel
theorem dL_law_1651 : decode cL_law 1651 = .ok (.ifCond .ne 15, 3) := by decide +kernel
theorem dL_law_1654 : decode cL_law 1654 = .ok (.aload_n 3, 1) := by decide +kernel
theorem dL_law_1655 : decode cL_law 1655 = .ok (.iconst 0, 1) := by decide +kernel
theorem dL_law_1656 : decode cL_law 1656 = .ok (.laload, 1) := by decide +kernel
theorem dL_law_1657 : decode cL_law 1657 = .ok (.iload 7, 2) := by decide +kernel
theorem dL_law_1659 : decode cL_law 1659 = .ok (.i2l, 1) := by decide +kernel
theorem dL_law_1660 : decode cL_law 1660 = .ok (.lcmp, 1) := by decide +kernel
theorem dL_law_1661 : decode cL_law 1661 = .ok (.ifCond .eq 5, 3) := by decide +kernel
theorem dL_law_1664 : decode cL_law 1664 = .ok (.iconst 0, 1) := by decide +kernel
theorem dL_law_1665 : decode cL_law 1665 = .ok (.ireturn, 1) := by decide +kernel
theorem dL_law_1666 : decode cL_law 1666 = .ok (.goto 1328, 3) := by decide +kernel
theorem dL_law_1669 : decode cL_law 1669 = .ok (.aload_n 1, 1) := by decide +kernel
theorem dL_law_1670 : decode cL_law 1670 = .ok (.aload_n 0, 1) := by decide +kernel
theorem dL_law_1671 : decode cL_law 1671 = .ok (.iload 5, 2) := by decide +kernel
theorem dL_law_1673 : decode cL_law 1673 = .ok (.iconst 1, 1) := by decide +kernel
theorem dL_law_1674 : decode cL_law 1674 = .ok (.iadd, 1) := by decide +kernel
theorem dL_law_1675 : decode cL_law 1675 = .ok (.iaload, 1) := by decide +kernel
theorem dL_law_1676 : decode cL_law 1676 = .ok (.aload_n 0, 1) := by decide +kernel
theorem dL_law_1677 : decode cL_law 1677 = .ok (.iload 5, 2) := by decide +kernel
theorem dL_law_1679 : decode cL_law 1679 = .ok (.iconst 2, 1) := by decide +kernel
theorem dL_law_1680 : decode cL_law 1680 = .ok (.iadd, 1) := by decide +kernel
theorem dL_law_1681 : decode cL_law 1681 = .ok (.iaload, 1) := by decide +kernel
theorem dL_law_1682 : decode cL_law 1682 = .ok (.aload_n 3, 1) := by decide +kernel
theorem dL_law_1683 : decode cL_law 1683 = .ok (.invokestatic 257, 3) := by decide +kernel
theorem dL_law_1686 : decode cL_law 1686 = .ok (.istore 6, 2) := by decide +kernel
theorem dL_law_1688 : decode cL_law 1688 = .ok (.aload_n 2, 1) := by decide +kernel
theorem dL_law_1689 : decode cL_law 1689 = .ok (.aload_n 0, 1) := by decide +kernel
theorem dL_law_1690 : decode cL_law 1690 = .ok (.iload 5, 2) := by decide +kernel
theorem dL_law_1692 : decode cL_law 1692 = .ok (.iconst 1, 1) := by decide +kernel
theorem dL_law_1693 : decode cL_law 1693 = .ok (.iadd, 1) := by decide +kernel
theorem dL_law_1694 : decode cL_law 1694 = .ok (.iaload, 1) := by decide +kernel
theorem dL_law_1695 : decode cL_law 1695 = .ok (.aload_n 0, 1) := by decide +kernel
theorem dL_law_1696 : decode cL_law 1696 = .ok (.iload 5, 2) := by decide +kernel
theorem dL_law_1698 : decode cL_law 1698 = .ok (.iconst 2, 1) := by decide +kernel
theorem dL_law_1699 : decode cL_law 1699 = .ok (.iadd, 1) := by decide +kernel
theorem dL_law_1700 : decode cL_law 1700 = .ok (.iaload, 1) := by decide +kernel
theorem dL_law_1701 : decode cL_law 1701 = .ok (.invokevirtual 259, 3) := by decide +kernel
theorem dL_law_1704 : decode cL_law 1704 = .ok (.istore 7, 2) := by decide +kernel
theorem dL_law_1706 : decode cL_law 1706 = .ok (.aload_n 2, 1) := by decide +kernel
theorem dL_law_1707 : decode cL_law 1707 = .ok (.invokevirtual 171, 3) := by decide +kernel
theorem dL_law_1710 : decode cL_law 1710 = .ok (.iload 6, 2) := by decide +kernel
theorem dL_law_1712 : decode cL_law 1712 = .ok (.if_icmp .eq 5, 3) := by decide +kernel
theorem dL_law_1715 : decode cL_law 1715 = .ok (.iconst 0, 1) := by decide +kernel
theorem dL_law_1716 : decode cL_law 1716 = .ok (.ireturn, 1) := by decide +kernel
theorem dL_law_1717 : decode cL_law 1717 = .ok (.iload 6, 2) := by decide +kernel
theorem dL_law_1719 : decode cL_law 1719 = .ok (.ifCond .ne 15, 3) := by decide +kernel
theorem dL_law_1722 : decode cL_law 1722 = .ok (.aload_n 3, 1) := by decide +kernel
theorem dL_law_1723 : decode cL_law 1723 = .ok (.iconst 0, 1) := by decide +kernel
theorem dL_law_1724 : decode cL_law 1724 = .ok (.laload, 1) := by decide +kernel
theorem dL_law_1725 : decode cL_law 1725 = .ok (.iload 7, 2) := by decide +kernel
theorem dL_law_1727 : decode cL_law 1727 = .ok (.i2l, 1) := by decide +kernel
theorem dL_law_1728 : decode cL_law 1728 = .ok (.lcmp, 1) := by decide +kernel
theorem dL_law_1729 : decode cL_law 1729 = .ok (.ifCond .eq 5, 3) := by decide +kernel
theorem dL_law_1732 : decode cL_law 1732 = .ok (.iconst 0, 1) := by decide +kernel
theorem dL_law_1733 : decode cL_law 1733 = .ok (.ireturn, 1) := by decide +kernel
theorem dL_law_1734 : decode cL_law 1734 = .ok (.goto 1260, 3) := by decide +kernel
theorem dL_law_1737 : decode cL_law 1737 = .ok (.aload_n 1, 1) := by decide +kernel
theorem dL_law_1738 : decode cL_law 1738 = .ok (.aload_n 0, 1) := by decide +kernel
theorem dL_law_1739 : decode cL_law 1739 = .ok (.iload 5, 2) := by decide +kernel
theorem dL_law_1741 : decode cL_law 1741 = .ok (.iconst 1, 1) := by decide +kernel
theorem dL_law_1742 : decode cL_law 1742 = .ok (.iadd, 1) := by decide +kernel
theorem dL_law_1743 : decode cL_law 1743 = .ok (.iaload, 1) := by decide +kernel
theorem dL_law_1744 : decode cL_law 1744 = .ok (.aload_n 0, 1) := by decide +kernel
theorem dL_law_1745 : decode cL_law 1745 = .ok (.iload 5, 2) := by decide +kernel
theorem dL_law_1747 : decode cL_law 1747 = .ok (.iconst 2, 1) := by decide +kernel
theorem dL_law_1748 : decode cL_law 1748 = .ok (.iadd, 1) := by decide +kernel
theorem dL_law_1749 : decode cL_law 1749 = .ok (.iaload, 1) := by decide +kernel
theorem dL_law_1750 : decode cL_law 1750 = .ok (.aload_n 3, 1) := by decide +kernel
theorem dL_law_1751 : decode cL_law 1751 = .ok (.invokestatic 260, 3) := by decide +kernel
theorem dL_law_1754 : decode cL_law 1754 = .ok (.istore 6, 2) := by decide +kernel
theorem dL_law_1756 : decode cL_law 1756 = .ok (.aload_n 2, 1) := by decide +kernel
theorem dL_law_1757 : decode cL_law 1757 = .ok (.aload_n 0, 1) := by decide +kernel
theorem dL_law_1758 : decode cL_law 1758 = .ok (.iload 5, 2) := by decide +kernel
theorem dL_law_1760 : decode cL_law 1760 = .ok (.iconst 1, 1) := by decide +kernel
theorem dL_law_1761 : decode cL_law 1761 = .ok (.iadd, 1) := by decide +kernel
theorem dL_law_1762 : decode cL_law 1762 = .ok (.iaload, 1) := by decide +kernel
theorem dL_law_1763 : decode cL_law 1763 = .ok (.aload_n 0, 1) := by decide +kernel
theorem dL_law_1764 : decode cL_law 1764 = .ok (.iload 5, 2) := by decide +kernel
theorem dL_law_1766 : decode cL_law 1766 = .ok (.iconst 2, 1) := by decide +kernel
theorem dL_law_1767 : decode cL_law 1767 = .ok (.iadd, 1) := by decide +kernel
theorem dL_law_1768 : decode cL_law 1768 = .ok (.iaload, 1) := by decide +kernel
theorem dL_law_1769 : decode cL_law 1769 = .ok (.invokevirtual 262, 3) := by decide +kernel
theorem dL_law_1772 : decode cL_law 1772 = .ok (.istore 7, 2) := by decide +kernel
theorem dL_law_1774 : decode cL_law 1774 = .ok (.aload_n 2, 1) := by decide +kernel
theorem dL_law_1775 : decode cL_law 1775 = .ok (.invokevirtual 171, 3) := by decide +kernel
theorem dL_law_1778 : decode cL_law 1778 = .ok (.iload 6, 2) := by decide +kernel
theorem dL_law_1780 : decode cL_law 1780 = .ok (.if_icmp .eq 5, 3) := by decide +kernel
theorem dL_law_1783 : decode cL_law 1783 = .ok (.iconst 0, 1) := by decide +kernel
theorem dL_law_1784 : decode cL_law 1784 = .ok (.ireturn, 1) := by decide +kernel
theorem dL_law_1785 : decode cL_law 1785 = .ok (.iload 6, 2) := by decide +kernel
theorem dL_law_1787 : decode cL_law 1787 = .ok (.ifCond .ne 15, 3) := by decide +kernel
theorem dL_law_1790 : decode cL_law 1790 = .ok (.aload_n 3, 1) := by decide +kernel
theorem dL_law_1791 : decode cL_law 1791 = .ok (.iconst 0, 1) := by decide +kernel
theorem dL_law_1792 : decode cL_law 1792 = .ok (.laload, 1) := by decide +kernel
theorem dL_law_1793 : decode cL_law 1793 = .ok (.iload 7, 2) := by decide +kernel
theorem dL_law_1795 : decode cL_law 1795 = .ok (.i2l, 1) := by decide +kernel
theorem dL_law_1796 : decode cL_law 1796 = .ok (.lcmp, 1) := by decide +kernel
theorem dL_law_1797 : decode cL_law 1797 = .ok (.ifCond .eq 5, 3) := by decide +kernel
theorem dL_law_1800 : decode cL_law 1800 = .ok (.iconst 0, 1) := by decide +kernel
theorem dL_law_1801 : decode cL_law 1801 = .ok (.ireturn, 1) := by decide +kernel
theorem dL_law_1802 : decode cL_law 1802 = .ok (.goto 1192, 3) := by decide +kernel
theorem dL_law_1805 : decode cL_law 1805 = .ok (.aload_n 1, 1) := by decide +kernel
theorem dL_law_1806 : decode cL_law 1806 = .ok (.aload_n 0, 1) := by decide +kernel
theorem dL_law_1807 : decode cL_law 1807 = .ok (.iload 5, 2) := by decide +kernel
theorem dL_law_1809 : decode cL_law 1809 = .ok (.iconst 1, 1) := by decide +kernel
theorem dL_law_1810 : decode cL_law 1810 = .ok (.iadd, 1) := by decide +kernel
theorem dL_law_1811 : decode cL_law 1811 = .ok (.iaload, 1) := by decide +kernel
theorem dL_law_1812 : decode cL_law 1812 = .ok (.aload_n 3, 1) := by decide +kernel
theorem dL_law_1813 : decode cL_law 1813 = .ok (.invokestatic 263, 3) := by decide +kernel
theorem dL_law_1816 : decode cL_law 1816 = .ok (.istore 6, 2) := by decide +kernel
theorem dL_law_1818 : decode cL_law 1818 = .ok (.aload_n 2, 1) := by decide +kernel
theorem dL_law_1819 : decode cL_law 1819 = .ok (.aload_n 0, 1) := by decide +kernel
theorem dL_law_1820 : decode cL_law 1820 = .ok (.iload 5, 2) := by decide +kernel
theorem dL_law_1822 : decode cL_law 1822 = .ok (.iconst 1, 1) := by decide +kernel
theorem dL_law_1823 : decode cL_law 1823 = .ok (.iadd, 1) := by decide +kernel
theorem dL_law_1824 : decode cL_law 1824 = .ok (.iaload, 1) := by decide +kernel
theorem dL_law_1825 : decode cL_law 1825 = .ok (.invokevirtual 265, 3) := by decide +kernel
theorem dL_law_1828 : decode cL_law 1828 = .ok (.istore 7, 2) := by decide +kernel
theorem dL_law_1830 : decode cL_law 1830 = .ok (.aload_n 2, 1) := by decide +kernel
theorem dL_law_1831 : decode cL_law 1831 = .ok (.invokevirtual 171, 3) := by decide +kernel
theorem dL_law_1834 : decode cL_law 1834 = .ok (.iload 6, 2) := by decide +kernel
theorem dL_law_1836 : decode cL_law 1836 = .ok (.if_icmp .eq 5, 3) := by decide +kernel
theorem dL_law_1839 : decode cL_law 1839 = .ok (.iconst 0, 1) := by decide +kernel
theorem dL_law_1840 : decode cL_law 1840 = .ok (.ireturn, 1) := by decide +kernel
theorem dL_law_1841 : decode cL_law 1841 = .ok (.iload 6, 2) := by decide +kernel
theorem dL_law_1843 : decode cL_law 1843 = .ok (.ifCond .ne 15, 3) := by decide +kernel
theorem dL_law_1846 : decode cL_law 1846 = .ok (.aload_n 3, 1) := by decide +kernel
theorem dL_law_1847 : decode cL_law 1847 = .ok (.iconst 0, 1) := by decide +kernel
theorem dL_law_1848 : decode cL_law 1848 = .ok (.laload, 1) := by decide +kernel
theorem dL_law_1849 : decode cL_law 1849 = .ok (.iload 7, 2) := by decide +kernel
theorem dL_law_1851 : decode cL_law 1851 = .ok (.i2l, 1) := by decide +kernel
theorem dL_law_1852 : decode cL_law 1852 = .ok (.lcmp, 1) := by decide +kernel
theorem dL_law_1853 : decode cL_law 1853 = .ok (.ifCond .eq 5, 3) := by decide +kernel
theorem dL_law_1856 : decode cL_law 1856 = .ok (.iconst 0, 1) := by decide +kernel
theorem dL_law_1857 : decode cL_law 1857 = .ok (.ireturn, 1) := by decide +kernel
theorem dL_law_1858 : decode cL_law 1858 = .ok (.goto 1136, 3) := by decide +kernel
theorem dL_law_1861 : decode cL_law 1861 = .ok (.aload_n 1, 1) := by decide +kernel
theorem dL_law_1862 : decode cL_law 1862 = .ok (.invokevirtual 266, 3) := by decide +kernel
theorem dL_law_1865 : decode cL_law 1865 = .ok (.aload_n 2, 1) := by decide +kernel
theorem dL_law_1866 : decode cL_law 1866 = .ok (.invokevirtual 269, 3) := by decide +kernel
theorem dL_law_1869 : decode cL_law 1869 = .ok (.if_icmp .eq 1125, 3) := by decide +kernel
theorem dL_law_1872 : decode cL_law 1872 = .ok (.iconst 0, 1) := by decide +kernel
theorem dL_law_1873 : decode cL_law 1873 = .ok (.ireturn, 1) := by decide +kernel
theorem dL_law_1874 : decode cL_law 1874 = .ok (.aload_n 1, 1) := by decide +kernel
theorem dL_law_1875 : decode cL_law 1875 = .ok (.invokevirtual 270, 3) := by decide +kernel
theorem dL_law_1878 : decode cL_law 1878 = .ok (.aload_n 2, 1) := by decide +kernel
theorem dL_law_1879 : decode cL_law 1879 = .ok (.invokevirtual 273, 3) := by decide +kernel
theorem dL_law_1882 : decode cL_law 1882 = .ok (.if_icmp .eq 1112, 3) := by decide +kernel
theorem dL_law_1885 : decode cL_law 1885 = .ok (.iconst 0, 1) := by decide +kernel
theorem dL_law_1886 : decode cL_law 1886 = .ok (.ireturn, 1) := by decide +kernel
theorem dL_law_1887 : decode cL_law 1887 = .ok (.aload_n 1, 1) := by decide +kernel
theorem dL_law_1888 : decode cL_law 1888 = .ok (.invokevirtual 274, 3) := by decide +kernel
theorem dL_law_1891 : decode cL_law 1891 = .ok (.aload_n 2, 1) := by decide +kernel
theorem dL_law_1892 : decode cL_law 1892 = .ok (.invokevirtual 277, 3) := by decide +kernel
theorem dL_law_1895 : decode cL_law 1895 = .ok (.if_icmp .eq 1099, 3) := by decide +kernel
theorem dL_law_1898 : decode cL_law 1898 = .ok (.iconst 0, 1) := by decide +kernel
theorem dL_law_1899 : decode cL_law 1899 = .ok (.ireturn, 1) := by decide +kernel
theorem dL_law_1900 : decode cL_law 1900 = .ok (.aload_n 1, 1) := by decide +kernel
theorem dL_law_1901 : decode cL_law 1901 = .ok (.aload_n 3, 1) := by decide +kernel
theorem dL_law_1902 : decode cL_law 1902 = .ok (.invokestatic 278, 3) := by decide +kernel
theorem dL_law_1905 : decode cL_law 1905 = .ok (.istore 6, 2) := by decide +kernel
theorem dL_law_1907 : decode cL_law 1907 = .ok (.aload_n 2, 1) := by decide +kernel
theorem dL_law_1908 : decode cL_law 1908 = .ok (.invokevirtual 281, 3) := by decide +kernel
theorem dL_law_1911 : decode cL_law 1911 = .ok (.istore 7, 2) := by decide +kernel
theorem dL_law_1913 : decode cL_law 1913 = .ok (.aload_n 2, 1) := by decide +kernel
theorem dL_law_1914 : decode cL_law 1914 = .ok (.invokevirtual 171, 3) := by decide +kernel
theorem dL_law_1917 : decode cL_law 1917 = .ok (.iload 6, 2) := by decide +kernel
theorem dL_law_1919 : decode cL_law 1919 = .ok (.if_icmp .eq 5, 3) := by decide +kernel
theorem dL_law_1922 : decode cL_law 1922 = .ok (.iconst 0, 1) := by decide +kernel
theorem dL_law_1923 : decode cL_law 1923 = .ok (.ireturn, 1) := by decide +kernel
theorem dL_law_1924 : decode cL_law 1924 = .ok (.iload 6, 2) := by decide +kernel
theorem dL_law_1926 : decode cL_law 1926 = .ok (.ifCond .ne 15, 3) := by decide +kernel
theorem dL_law_1929 : decode cL_law 1929 = .ok (.aload_n 3, 1) := by decide +kernel
theorem dL_law_1930 : decode cL_law 1930 = .ok (.iconst 0, 1) := by decide +kernel
theorem dL_law_1931 : decode cL_law 1931 = .ok (.laload, 1) := by decide +kernel
theorem dL_law_1932 : decode cL_law 1932 = .ok (.iload 7, 2) := by decide +kernel
theorem dL_law_1934 : decode cL_law 1934 = .ok (.i2l, 1) := by decide +kernel
theorem dL_law_1935 : decode cL_law 1935 = .ok (.lcmp, 1) := by decide +kernel
theorem dL_law_1936 : decode cL_law 1936 = .ok (.ifCond .eq 5, 3) := by decide +kernel
theorem dL_law_1939 : decode cL_law 1939 = .ok (.iconst 0, 1) := by decide +kernel
theorem dL_law_1940 : decode cL_law 1940 = .ok (.ireturn, 1) := by decide +kernel
theorem dL_law_1941 : decode cL_law 1941 = .ok (.goto 1053, 3) := by decide +kernel
theorem dL_law_1944 : decode cL_law 1944 = .ok (.aload_n 1, 1) := by decide +kernel
theorem dL_law_1945 : decode cL_law 1945 = .ok (.aload_n 0, 1) := by decide +kernel
theorem dL_law_1946 : decode cL_law 1946 = .ok (.iload 5, 2) := by decide +kernel
theorem dL_law_1948 : decode cL_law 1948 = .ok (.iconst 1, 1) := by decide +kernel
theorem dL_law_1949 : decode cL_law 1949 = .ok (.iadd, 1) := by decide +kernel
theorem dL_law_1950 : decode cL_law 1950 = .ok (.iaload, 1) := by decide +kernel
theorem dL_law_1951 : decode cL_law 1951 = .ok (.aload_n 3, 1) := by decide +kernel
theorem dL_law_1952 : decode cL_law 1952 = .ok (.invokestatic 282, 3) := by decide +kernel
theorem dL_law_1955 : decode cL_law 1955 = .ok (.istore 6, 2) := by decide +kernel
theorem dL_law_1957 : decode cL_law 1957 = .ok (.aload_n 2, 1) := by decide +kernel
theorem dL_law_1958 : decode cL_law 1958 = .ok (.aload_n 0, 1) := by decide +kernel
theorem dL_law_1959 : decode cL_law 1959 = .ok (.iload 5, 2) := by decide +kernel
theorem dL_law_1961 : decode cL_law 1961 = .ok (.iconst 1, 1) := by decide +kernel
theorem dL_law_1962 : decode cL_law 1962 = .ok (.iadd, 1) := by decide +kernel
theorem dL_law_1963 : decode cL_law 1963 = .ok (.iaload, 1) := by decide +kernel
theorem dL_law_1964 : decode cL_law 1964 = .ok (.invokevirtual 284, 3) := by decide +kernel
theorem dL_law_1967 : decode cL_law 1967 = .ok (.istore 7, 2) := by decide +kernel
theorem dL_law_1969 : decode cL_law 1969 = .ok (.aload_n 2, 1) := by decide +kernel
theorem dL_law_1970 : decode cL_law 1970 = .ok (.invokevirtual 171, 3) := by decide +kernel
theorem dL_law_1973 : decode cL_law 1973 = .ok (.iload 6, 2) := by decide +kernel
theorem dL_law_1975 : decode cL_law 1975 = .ok (.if_icmp .eq 5, 3) := by decide +kernel
theorem dL_law_1978 : decode cL_law 1978 = .ok (.iconst 0, 1) := by decide +kernel
theorem dL_law_1979 : decode cL_law 1979 = .ok (.ireturn, 1) := by decide +kernel
theorem dL_law_1980 : decode cL_law 1980 = .ok (.iload 6, 2) := by decide +kernel
theorem dL_law_1982 : decode cL_law 1982 = .ok (.ifCond .ne 15, 3) := by decide +kernel
theorem dL_law_1985 : decode cL_law 1985 = .ok (.aload_n 3, 1) := by decide +kernel
theorem dL_law_1986 : decode cL_law 1986 = .ok (.iconst 0, 1) := by decide +kernel
theorem dL_law_1987 : decode cL_law 1987 = .ok (.laload, 1) := by decide +kernel
theorem dL_law_1988 : decode cL_law 1988 = .ok (.iload 7, 2) := by decide +kernel
theorem dL_law_1990 : decode cL_law 1990 = .ok (.i2l, 1) := by decide +kernel
theorem dL_law_1991 : decode cL_law 1991 = .ok (.lcmp, 1) := by decide +kernel
theorem dL_law_1992 : decode cL_law 1992 = .ok (.ifCond .eq 5, 3) := by decide +kernel
theorem dL_law_1995 : decode cL_law 1995 = .ok (.iconst 0, 1) := by decide +kernel
theorem dL_law_1996 : decode cL_law 1996 = .ok (.ireturn, 1) := by decide +kernel
theorem dL_law_1997 : decode cL_law 1997 = .ok (.goto 997, 3) := by decide +kernel
theorem dL_law_2000 : decode cL_law 2000 = .ok (.aload_n 1, 1) := by decide +kernel
theorem dL_law_2001 : decode cL_law 2001 = .ok (.invokevirtual 285, 3) := by decide +kernel
theorem dL_law_2004 : decode cL_law 2004 = .ok (.aload_n 2, 1) := by decide +kernel
theorem dL_law_2005 : decode cL_law 2005 = .ok (.invokevirtual 288, 3) := by decide +kernel
theorem dL_law_2008 : decode cL_law 2008 = .ok (.if_icmp .eq 986, 3) := by decide +kernel
theorem dL_law_2011 : decode cL_law 2011 = .ok (.iconst 0, 1) := by decide +kernel
theorem dL_law_2012 : decode cL_law 2012 = .ok (.ireturn, 1) := by decide +kernel
theorem dL_law_2013 : decode cL_law 2013 = .ok (.aload_n 1, 1) := by decide +kernel
theorem dL_law_2014 : decode cL_law 2014 = .ok (.aload_n 0, 1) := by decide +kernel
theorem dL_law_2015 : decode cL_law 2015 = .ok (.iload 5, 2) := by decide +kernel
theorem dL_law_2017 : decode cL_law 2017 = .ok (.iconst 1, 1) := by decide +kernel
theorem dL_law_2018 : decode cL_law 2018 = .ok (.iadd, 1) := by decide +kernel
theorem dL_law_2019 : decode cL_law 2019 = .ok (.iaload, 1) := by decide +kernel
theorem dL_law_2020 : decode cL_law 2020 = .ok (.aload_n 3, 1) := by decide +kernel
theorem dL_law_2021 : decode cL_law 2021 = .ok (.invokestatic 289, 3) := by decide +kernel
theorem dL_law_2024 : decode cL_law 2024 = .ok (.istore 6, 2) := by decide +kernel
theorem dL_law_2026 : decode cL_law 2026 = .ok (.aload_n 2, 1) := by decide +kernel
theorem dL_law_2027 : decode cL_law 2027 = .ok (.aload_n 0, 1) := by decide +kernel
theorem dL_law_2028 : decode cL_law 2028 = .ok (.iload 5, 2) := by decide +kernel
theorem dL_law_2030 : decode cL_law 2030 = .ok (.iconst 1, 1) := by decide +kernel
theorem dL_law_2031 : decode cL_law 2031 = .ok (.iadd, 1) := by decide +kernel
theorem dL_law_2032 : decode cL_law 2032 = .ok (.iaload, 1) := by decide +kernel
theorem dL_law_2033 : decode cL_law 2033 = .ok (.invokevirtual 291, 3) := by decide +kernel
theorem dL_law_2036 : decode cL_law 2036 = .ok (.istore 7, 2) := by decide +kernel
theorem dL_law_2038 : decode cL_law 2038 = .ok (.aload_n 2, 1) := by decide +kernel
theorem dL_law_2039 : decode cL_law 2039 = .ok (.invokevirtual 171, 3) := by decide +kernel
theorem dL_law_2042 : decode cL_law 2042 = .ok (.iload 6, 2) := by decide +kernel
theorem dL_law_2044 : decode cL_law 2044 = .ok (.if_icmp .eq 5, 3) := by decide +kernel
theorem dL_law_2047 : decode cL_law 2047 = .ok (.iconst 0, 1) := by decide +kernel
theorem dL_law_2048 : decode cL_law 2048 = .ok (.ireturn, 1) := by decide +kernel
theorem dL_law_2049 : decode cL_law 2049 = .ok (.iload 6, 2) := by decide +kernel
theorem dL_law_2051 : decode cL_law 2051 = .ok (.ifCond .ne 15, 3) := by decide +kernel
theorem dL_law_2054 : decode cL_law 2054 = .ok (.aload_n 3, 1) := by decide +kernel
theorem dL_law_2055 : decode cL_law 2055 = .ok (.iconst 0, 1) := by decide +kernel
theorem dL_law_2056 : decode cL_law 2056 = .ok (.laload, 1) := by decide +kernel
theorem dL_law_2057 : decode cL_law 2057 = .ok (.iload 7, 2) := by decide +kernel
theorem dL_law_2059 : decode cL_law 2059 = .ok (.i2l, 1) := by decide +kernel
theorem dL_law_2060 : decode cL_law 2060 = .ok (.lcmp, 1) := by decide +kernel
theorem dL_law_2061 : decode cL_law 2061 = .ok (.ifCond .eq 5, 3) := by decide +kernel
theorem dL_law_2064 : decode cL_law 2064 = .ok (.iconst 0, 1) := by decide +kernel
theorem dL_law_2065 : decode cL_law 2065 = .ok (.ireturn, 1) := by decide +kernel
theorem dL_law_2066 : decode cL_law 2066 = .ok (.goto 928, 3) := by decide +kernel
theorem dL_law_2069 : decode cL_law 2069 = .ok (.aload_n 1, 1) := by decide +kernel
theorem dL_law_2070 : decode cL_law 2070 = .ok (.invokevirtual 292, 3) := by decide +kernel
theorem dL_law_2073 : decode cL_law 2073 = .ok (.aload_n 2, 1) := by decide +kernel
theorem dL_law_2074 : decode cL_law 2074 = .ok (.invokevirtual 296, 3) := by decide +kernel
theorem dL_law_2077 : decode cL_law 2077 = .ok (.lcmp, 1) := by decide +kernel
theorem dL_law_2078 : decode cL_law 2078 = .ok (.ifCond .eq 916, 3) := by decide +kernel
theorem dL_law_2081 : decode cL_law 2081 = .ok (.iconst 0, 1) := by decide +kernel
theorem dL_law_2082 : decode cL_law 2082 = .ok (.ireturn, 1) := by decide +kernel
theorem dL_law_2083 : decode cL_law 2083 = .ok (.aload_n 1, 1) := by decide +kernel
theorem dL_law_2084 : decode cL_law 2084 = .ok (.invokevirtual 297, 3) := by decide +kernel
theorem dL_law_2087 : decode cL_law 2087 = .ok (.aload_n 2, 1) := by decide +kernel
theorem dL_law_2088 : decode cL_law 2088 = .ok (.invokevirtual 300, 3) := by decide +kernel
theorem dL_law_2091 : decode cL_law 2091 = .ok (.lcmp, 1) := by decide +kernel
theorem dL_law_2092 : decode cL_law 2092 = .ok (.ifCond .eq 902, 3) := by decide +kernel
theorem dL_law_2095 : decode cL_law 2095 = .ok (.iconst 0, 1) := by decide +kernel
theorem dL_law_2096 : decode cL_law 2096 = .ok (.ireturn, 1) := by decide +kernel
theorem dL_law_2097 : decode cL_law 2097 = .ok (.aload_n 1, 1) := by decide +kernel
theorem dL_law_2098 : decode cL_law 2098 = .ok (.aload_n 0, 1) := by decide +kernel
theorem dL_law_2099 : decode cL_law 2099 = .ok (.iload 5, 2) := by decide +kernel
theorem dL_law_2101 : decode cL_law 2101 = .ok (.iconst 1, 1) := by decide +kernel
theorem dL_law_2102 : decode cL_law 2102 = .ok (.iadd, 1) := by decide +kernel
theorem dL_law_2103 : decode cL_law 2103 = .ok (.iaload, 1) := by decide +kernel
theorem dL_law_2104 : decode cL_law 2104 = .ok (.i2c, 1) := by decide +kernel
theorem dL_law_2105 : decode cL_law 2105 = .ok (.aload_n 0, 1) := by decide +kernel
theorem dL_law_2106 : decode cL_law 2106 = .ok (.iload 5, 2) := by decide +kernel
theorem dL_law_2108 : decode cL_law 2108 = .ok (.iconst 2, 1) := by decide +kernel
theorem dL_law_2109 : decode cL_law 2109 = .ok (.iadd, 1) := by decide +kernel
theorem dL_law_2110 : decode cL_law 2110 = .ok (.iaload, 1) := by decide +kernel
theorem dL_law_2111 : decode cL_law 2111 = .ok (.aload_n 3, 1) := by decide +kernel
theorem dL_law_2112 : decode cL_law 2112 = .ok (.invokestatic 301, 3) := by decide +kernel
theorem dL_law_2115 : decode cL_law 2115 = .ok (.istore 6, 2) := by decide +kernel
theorem dL_law_2117 : decode cL_law 2117 = .ok (.aload_n 2, 1) := by decide +kernel
theorem dL_law_2118 : decode cL_law 2118 = .ok (.aload_n 0, 1) := by decide +kernel
theorem dL_law_2119 : decode cL_law 2119 = .ok (.iload 5, 2) := by decide +kernel
theorem dL_law_2121 : decode cL_law 2121 = .ok (.iconst 1, 1) := by decide +kernel
theorem dL_law_2122 : decode cL_law 2122 = .ok (.iadd, 1) := by decide +kernel
theorem dL_law_2123 : decode cL_law 2123 = .ok (.iaload, 1) := by decide +kernel
theorem dL_law_2124 : decode cL_law 2124 = .ok (.i2c, 1) := by decide +kernel
theorem dL_law_2125 : decode cL_law 2125 = .ok (.aload_n 0, 1) := by decide +kernel
theorem dL_law_2126 : decode cL_law 2126 = .ok (.iload 5, 2) := by decide +kernel
theorem dL_law_2128 : decode cL_law 2128 = .ok (.iconst 2, 1) := by decide +kernel
theorem dL_law_2129 : decode cL_law 2129 = .ok (.iadd, 1) := by decide +kernel
theorem dL_law_2130 : decode cL_law 2130 = .ok (.iaload, 1) := by decide +kernel
theorem dL_law_2131 : decode cL_law 2131 = .ok (.invokevirtual 303, 3) := by decide +kernel
theorem dL_law_2134 : decode cL_law 2134 = .ok (.istore 7, 2) := by decide +kernel
theorem dL_law_2136 : decode cL_law 2136 = .ok (.aload_n 2, 1) := by decide +kernel
theorem dL_law_2137 : decode cL_law 2137 = .ok (.invokevirtual 171, 3) := by decide +kernel
theorem dL_law_2140 : decode cL_law 2140 = .ok (.iload 6, 2) := by decide +kernel
theorem dL_law_2142 : decode cL_law 2142 = .ok (.if_icmp .eq 5, 3) := by decide +kernel
theorem dL_law_2145 : decode cL_law 2145 = .ok (.iconst 0, 1) := by decide +kernel
theorem dL_law_2146 : decode cL_law 2146 = .ok (.ireturn, 1) := by decide +kernel
theorem dL_law_2147 : decode cL_law 2147 = .ok (.iload 6, 2) := by decide +kernel
theorem dL_law_2149 : decode cL_law 2149 = .ok (.ifCond .ne 15, 3) := by decide +kernel
theorem dL_law_2152 : decode cL_law 2152 = .ok (.aload_n 3, 1) := by decide +kernel
theorem dL_law_2153 : decode cL_law 2153 = .ok (.iconst 0, 1) := by decide +kernel
theorem dL_law_2154 : decode cL_law 2154 = .ok (.laload, 1) := by decide +kernel
theorem dL_law_2155 : decode cL_law 2155 = .ok (.iload 7, 2) := by decide +kernel
theorem dL_law_2157 : decode cL_law 2157 = .ok (.i2l, 1) := by decide +kernel
theorem dL_law_2158 : decode cL_law 2158 = .ok (.lcmp, 1) := by decide +kernel
theorem dL_law_2159 : decode cL_law 2159 = .ok (.ifCond .eq 5, 3) := by decide +kernel
theorem dL_law_2162 : decode cL_law 2162 = .ok (.iconst 0, 1) := by decide +kernel
theorem dL_law_2163 : decode cL_law 2163 = .ok (.ireturn, 1) := by decide +kernel
theorem dL_law_2164 : decode cL_law 2164 = .ok (.goto 830, 3) := by decide +kernel
theorem dL_law_2167 : decode cL_law 2167 = .ok (.aload_n 1, 1) := by decide +kernel
theorem dL_law_2168 : decode cL_law 2168 = .ok (.aload_n 3, 1) := by decide +kernel
theorem dL_law_2169 : decode cL_law 2169 = .ok (.invokestatic 304, 3) := by decide +kernel
theorem dL_law_2172 : decode cL_law 2172 = .ok (.istore 6, 2) := by decide +kernel
theorem dL_law_2174 : decode cL_law 2174 = .ok (.aload_n 2, 1) := by decide +kernel
theorem dL_law_2175 : decode cL_law 2175 = .ok (.invokevirtual 306, 3) := by decide +kernel
theorem dL_law_2178 : decode cL_law 2178 = .ok (.istore 7, 2) := by decide +kernel
theorem dL_law_2180 : decode cL_law 2180 = .ok (.aload_n 2, 1) := by decide +kernel
theorem dL_law_2181 : decode cL_law 2181 = .ok (.invokevirtual 171, 3) := by decide +kernel
theorem dL_law_2184 : decode cL_law 2184 = .ok (.iload 6, 2) := by decide +kernel
theorem dL_law_2186 : decode cL_law 2186 = .ok (.if_icmp .eq 5, 3) := by decide +kernel
theorem dL_law_2189 : decode cL_law 2189 = .ok (.iconst 0, 1) := by decide +kernel
theorem dL_law_2190 : decode cL_law 2190 = .ok (.ireturn, 1) := by decide +kernel
theorem dL_law_2191 : decode cL_law 2191 = .ok (.iload 6, 2) := by decide +kernel
theorem dL_law_2193 : decode cL_law 2193 = .ok (.ifCond .ne 15, 3) := by decide +kernel
theorem dL_law_2196 : decode cL_law 2196 = .ok (.aload_n 3, 1) := by decide +kernel
theorem dL_law_2197 : decode cL_law 2197 = .ok (.iconst 0, 1) := by decide +kernel
theorem dL_law_2198 : decode cL_law 2198 = .ok (.laload, 1) := by decide +kernel
theorem dL_law_2199 : decode cL_law 2199 = .ok (.iload 7, 2) := by decide +kernel
theorem dL_law_2201 : decode cL_law 2201 = .ok (.i2l, 1) := by decide +kernel
theorem dL_law_2202 : decode cL_law 2202 = .ok (.lcmp, 1) := by decide +kernel
theorem dL_law_2203 : decode cL_law 2203 = .ok (.ifCond .eq 5, 3) := by decide +kernel
theorem dL_law_2206 : decode cL_law 2206 = .ok (.iconst 0, 1) := by decide +kernel
theorem dL_law_2207 : decode cL_law 2207 = .ok (.ireturn, 1) := by decide +kernel
theorem dL_law_2208 : decode cL_law 2208 = .ok (.goto 786, 3) := by decide +kernel
theorem dL_law_2211 : decode cL_law 2211 = .ok (.aload_n 1, 1) := by decide +kernel
theorem dL_law_2212 : decode cL_law 2212 = .ok (.aload_n 0, 1) := by decide +kernel
theorem dL_law_2213 : decode cL_law 2213 = .ok (.iload 5, 2) := by decide +kernel
theorem dL_law_2215 : decode cL_law 2215 = .ok (.iconst 1, 1) := by decide +kernel
theorem dL_law_2216 : decode cL_law 2216 = .ok (.iadd, 1) := by decide +kernel
theorem dL_law_2217 : decode cL_law 2217 = .ok (.iaload, 1) := by decide +kernel
theorem dL_law_2218 : decode cL_law 2218 = .ok (.aload_n 3, 1) := by decide +kernel
theorem dL_law_2219 : decode cL_law 2219 = .ok (.invokestatic 307, 3) := by decide +kernel
theorem dL_law_2222 : decode cL_law 2222 = .ok (.istore 6, 2) := by decide +kernel
theorem dL_law_2224 : decode cL_law 2224 = .ok (.aload_n 2, 1) := by decide +kernel
theorem dL_law_2225 : decode cL_law 2225 = .ok (.aload_n 0, 1) := by decide +kernel
theorem dL_law_2226 : decode cL_law 2226 = .ok (.iload 5, 2) := by decide +kernel
theorem dL_law_2228 : decode cL_law 2228 = .ok (.iconst 1, 1) := by decide +kernel
theorem dL_law_2229 : decode cL_law 2229 = .ok (.iadd, 1) := by decide +kernel
theorem dL_law_2230 : decode cL_law 2230 = .ok (.iaload, 1) := by decide +kernel
theorem dL_law_2231 : decode cL_law 2231 = .ok (.invokevirtual 309, 3) := by decide +kernel
theorem dL_law_2234 : decode cL_law 2234 = .ok (.istore 7, 2) := by decide +kernel
theorem dL_law_2236 : decode cL_law 2236 = .ok (.aload_n 2, 1) := by decide +kernel
theorem dL_law_2237 : decode cL_law 2237 = .ok (.invokevirtual 171, 3) := by decide +kernel
theorem dL_law_2240 : decode cL_law 2240 = .ok (.iload 6, 2) := by decide +kernel
theorem dL_law_2242 : decode cL_law 2242 = .ok (.if_icmp .eq 5, 3) := by decide +kernel
theorem dL_law_2245 : decode cL_law 2245 = .ok (.iconst 0, 1) := by decide +kernel
theorem dL_law_2246 : decode cL_law 2246 = .ok (.ireturn, 1) := by decide +kernel
theorem dL_law_2247 : decode cL_law 2247 = .ok (.iload 6, 2) := by decide +kernel
theorem dL_law_2249 : decode cL_law 2249 = .ok (.ifCond .ne 15, 3) := by decide +kernel
theorem dL_law_2252 : decode cL_law 2252 = .ok (.aload_n 3, 1) := by decide +kernel
theorem dL_law_2253 : decode cL_law 2253 = .ok (.iconst 0, 1) := by decide +kernel
theorem dL_law_2254 : decode cL_law 2254 = .ok (.laload, 1) := by decide +kernel
theorem dL_law_2255 : decode cL_law 2255 = .ok (.iload 7, 2) := by decide +kernel
theorem dL_law_2257 : decode cL_law 2257 = .ok (.i2l, 1) := by decide +kernel
theorem dL_law_2258 : decode cL_law 2258 = .ok (.lcmp, 1) := by decide +kernel
theorem dL_law_2259 : decode cL_law 2259 = .ok (.ifCond .eq 5, 3) := by decide +kernel
theorem dL_law_2262 : decode cL_law 2262 = .ok (.iconst 0, 1) := by decide +kernel
theorem dL_law_2263 : decode cL_law 2263 = .ok (.ireturn, 1) := by decide +kernel
theorem dL_law_2264 : decode cL_law 2264 = .ok (.goto 730, 3) := by decide +kernel
theorem dL_law_2267 : decode cL_law 2267 = .ok (.aload_n 1, 1) := by decide +kernel
theorem dL_law_2268 : decode cL_law 2268 = .ok (.aload_n 0, 1) := by decide +kernel
theorem dL_law_2269 : decode cL_law 2269 = .ok (.iload 5, 2) := by decide +kernel
theorem dL_law_2271 : decode cL_law 2271 = .ok (.iconst 1, 1) := by decide +kernel
theorem dL_law_2272 : decode cL_law 2272 = .ok (.iadd, 1) := by decide +kernel
theorem dL_law_2273 : decode cL_law 2273 = .ok (.iaload, 1) := by decide +kernel
theorem dL_law_2274 : decode cL_law 2274 = .ok (.aload_n 3, 1) := by decide +kernel
theorem dL_law_2275 : decode cL_law 2275 = .ok (.invokestatic 310, 3) := by decide +kernel
theorem dL_law_2278 : decode cL_law 2278 = .ok (.istore 6, 2) := by decide +kernel
theorem dL_law_2280 : decode cL_law 2280 = .ok (.aload_n 2, 1) := by decide +kernel
theorem dL_law_2281 : decode cL_law 2281 = .ok (.aload_n 0, 1) := by decide +kernel
theorem dL_law_2282 : decode cL_law 2282 = .ok (.iload 5, 2) := by decide +kernel
theorem dL_law_2284 : decode cL_law 2284 = .ok (.iconst 1, 1) := by decide +kernel
theorem dL_law_2285 : decode cL_law 2285 = .ok (.iadd, 1) := by decide +kernel
theorem dL_law_2286 : decode cL_law 2286 = .ok (.iaload, 1) := by decide +kernel
theorem dL_law_2287 : decode cL_law 2287 = .ok (.invokevirtual 312, 3) := by decide +kernel
theorem dL_law_2290 : decode cL_law 2290 = .ok (.istore 7, 2) := by decide +kernel
theorem dL_law_2292 : decode cL_law 2292 = .ok (.aload_n 2, 1) := by decide +kernel
theorem dL_law_2293 : decode cL_law 2293 = .ok (.invokevirtual 171, 3) := by decide +kernel
theorem dL_law_2296 : decode cL_law 2296 = .ok (.iload 6, 2) := by decide +kernel
theorem dL_law_2298 : decode cL_law 2298 = .ok (.if_icmp .eq 5, 3) := by decide +kernel
theorem dL_law_2301 : decode cL_law 2301 = .ok (.iconst 0, 1) := by decide +kernel
theorem dL_law_2302 : decode cL_law 2302 = .ok (.ireturn, 1) := by decide +kernel
theorem dL_law_2303 : decode cL_law 2303 = .ok (.iload 6, 2) := by decide +kernel
theorem dL_law_2305 : decode cL_law 2305 = .ok (.ifCond .ne 15, 3) := by decide +kernel
theorem dL_law_2308 : decode cL_law 2308 = .ok (.aload_n 3, 1) := by decide +kernel
theorem dL_law_2309 : decode cL_law 2309 = .ok (.iconst 0, 1) := by decide +kernel
theorem dL_law_2310 : decode cL_law 2310 = .ok (.laload, 1) := by decide +kernel
theorem dL_law_2311 : decode cL_law 2311 = .ok (.iload 7, 2) := by decide +kernel
theorem dL_law_2313 : decode cL_law 2313 = .ok (.i2l, 1) := by decide +kernel
theorem dL_law_2314 : decode cL_law 2314 = .ok (.lcmp, 1) := by decide +kernel
theorem dL_law_2315 : decode cL_law 2315 = .ok (.ifCond .eq 5, 3) := by decide +kernel
theorem dL_law_2318 : decode cL_law 2318 = .ok (.iconst 0, 1) := by decide +kernel
theorem dL_law_2319 : decode cL_law 2319 = .ok (.ireturn, 1) := by decide +kernel
theorem dL_law_2320 : decode cL_law 2320 = .ok (.goto 674, 3) := by decide +kernel
theorem dL_law_2323 : decode cL_law 2323 = .ok (.aload_n 1, 1) := by decide +kernel
theorem dL_law_2324 : decode cL_law 2324 = .ok (.aload_n 0, 1) := by decide +kernel
theorem dL_law_2325 : decode cL_law 2325 = .ok (.iload 5, 2) := by decide +kernel
theorem dL_law_2327 : decode cL_law 2327 = .ok (.iconst 1, 1) := by decide +kernel
theorem dL_law_2328 : decode cL_law 2328 = .ok (.iadd, 1) := by decide +kernel
theorem dL_law_2329 : decode cL_law 2329 = .ok (.iaload, 1) := by decide +kernel
theorem dL_law_2330 : decode cL_law 2330 = .ok (.aload_n 3, 1) := by decide +kernel
theorem dL_law_2331 : decode cL_law 2331 = .ok (.invokestatic 313, 3) := by decide +kernel
theorem dL_law_2334 : decode cL_law 2334 = .ok (.istore 6, 2) := by decide +kernel
theorem dL_law_2336 : decode cL_law 2336 = .ok (.aload_n 2, 1) := by decide +kernel
theorem dL_law_2337 : decode cL_law 2337 = .ok (.aload_n 0, 1) := by decide +kernel
theorem dL_law_2338 : decode cL_law 2338 = .ok (.iload 5, 2) := by decide +kernel
theorem dL_law_2340 : decode cL_law 2340 = .ok (.iconst 1, 1) := by decide +kernel
theorem dL_law_2341 : decode cL_law 2341 = .ok (.iadd, 1) := by decide +kernel
theorem dL_law_2342 : decode cL_law 2342 = .ok (.iaload, 1) := by decide +kernel
theorem dL_law_2343 : decode cL_law 2343 = .ok (.invokevirtual 315, 3) := by decide +kernel
theorem dL_law_2346 : decode cL_law 2346 = .ok (.istore 7, 2) := by decide +kernel
theorem dL_law_2348 : decode cL_law 2348 = .ok (.aload_n 2, 1) := by decide +kernel
theorem dL_law_2349 : decode cL_law 2349 = .ok (.invokevirtual 171, 3) := by decide +kernel
theorem dL_law_2352 : decode cL_law 2352 = .ok (.iload 6, 2) := by decide +kernel
theorem dL_law_2354 : decode cL_law 2354 = .ok (.if_icmp .eq 5, 3) := by decide +kernel
theorem dL_law_2357 : decode cL_law 2357 = .ok (.iconst 0, 1) := by decide +kernel
theorem dL_law_2358 : decode cL_law 2358 = .ok (.ireturn, 1) := by decide +kernel
theorem dL_law_2359 : decode cL_law 2359 = .ok (.iload 6, 2) := by decide +kernel
theorem dL_law_2361 : decode cL_law 2361 = .ok (.ifCond .ne 15, 3) := by decide +kernel
theorem dL_law_2364 : decode cL_law 2364 = .ok (.aload_n 3, 1) := by decide +kernel
theorem dL_law_2365 : decode cL_law 2365 = .ok (.iconst 0, 1) := by decide +kernel
theorem dL_law_2366 : decode cL_law 2366 = .ok (.laload, 1) := by decide +kernel
theorem dL_law_2367 : decode cL_law 2367 = .ok (.iload 7, 2) := by decide +kernel
theorem dL_law_2369 : decode cL_law 2369 = .ok (.i2l, 1) := by decide +kernel
theorem dL_law_2370 : decode cL_law 2370 = .ok (.lcmp, 1) := by decide +kernel
theorem dL_law_2371 : decode cL_law 2371 = .ok (.ifCond .eq 5, 3) := by decide +kernel
theorem dL_law_2374 : decode cL_law 2374 = .ok (.iconst 0, 1) := by decide +kernel
theorem dL_law_2375 : decode cL_law 2375 = .ok (.ireturn, 1) := by decide +kernel
theorem dL_law_2376 : decode cL_law 2376 = .ok (.goto 618, 3) := by decide +kernel
theorem dL_law_2379 : decode cL_law 2379 = .ok (.aload_n 1, 1) := by decide +kernel
theorem dL_law_2380 : decode cL_law 2380 = .ok (.aload 4, 2) := by decide +kernel
theorem dL_law_2382 : decode cL_law 2382 = .ok (.invokestatic 316, 3) := by decide +kernel
theorem dL_law_2385 : decode cL_law 2385 = .ok (.istore 6, 2) := by decide +kernel
theorem dL_law_2387 : decode cL_law 2387 = .ok (.aload_n 2, 1) := by decide +kernel
theorem dL_law_2388 : decode cL_law 2388 = .ok (.invokevirtual 319, 3) := by decide +kernel
theorem dL_law_2391 : decode cL_law 2391 = .ok (.dstore 7, 2) := by decide +kernel
theorem dL_law_2393 : decode cL_law 2393 = .ok (.aload_n 2, 1) := by decide +kernel
theorem dL_law_2394 : decode cL_law 2394 = .ok (.invokevirtual 171, 3) := by decide +kernel
theorem dL_law_2397 : decode cL_law 2397 = .ok (.iload 6, 2) := by decide +kernel
theorem dL_law_2399 : decode cL_law 2399 = .ok (.if_icmp .eq 5, 3) := by decide +kernel
theorem dL_law_2402 : decode cL_law 2402 = .ok (.iconst 0, 1) := by decide +kernel
theorem dL_law_2403 : decode cL_law 2403 = .ok (.ireturn, 1) := by decide +kernel
theorem dL_law_2404 : decode cL_law 2404 = .ok (.iload 6, 2) := by decide +kernel
theorem dL_law_2406 : decode cL_law 2406 = .ok (.ifCond .ne 35, 3) := by decide +kernel
theorem dL_law_2409 : decode cL_law 2409 = .ok (.aload 4, 2) := by decide +kernel
theorem dL_law_2411 : decode cL_law 2411 = .ok (.iconst 0, 1) := by decide +kernel
theorem dL_law_2412 : decode cL_law 2412 = .ok (.daload, 1) := by decide +kernel
theorem dL_law_2413 : decode cL_law 2413 = .ok (.dload 7, 2) := by decide +kernel
theorem dL_law_2415 : decode cL_law 2415 = .ok (.dcmp .l, 1) := by decide +kernel
theorem dL_law_2416 : decode cL_law 2416 = .ok (.ifCond .eq 25, 3) := by decide +kernel
theorem dL_law_2419 : decode cL_law 2419 = .ok (.aload 4, 2) := by decide +kernel
theorem dL_law_2421 : decode cL_law 2421 = .ok (.iconst 0, 1) := by decide +kernel
theorem dL_law_2422 : decode cL_law 2422 = .ok (.daload, 1) := by decide +kernel
theorem dL_law_2423 : decode cL_law 2423 = .ok (.aload 4, 2) := by decide +kernel
theorem dL_law_2425 : decode cL_law 2425 = .ok (.iconst 0, 1) := by decide +kernel
theorem dL_law_2426 : decode cL_law 2426 = .ok (.daload, 1) := by decide +kernel
theorem dL_law_2427 : decode cL_law 2427 = .ok (.dcmp .l, 1) := by decide +kernel
theorem dL_law_2428 : decode cL_law 2428 = .ok (.ifCond .eq 11, 3) := by decide +kernel
theorem dL_law_2431 : decode cL_law 2431 = .ok (.dload 7, 2) := by decide +kernel
theorem dL_law_2433 : decode cL_law 2433 = .ok (.dload 7, 2) := by decide +kernel
theorem dL_law_2435 : decode cL_law 2435 = .ok (.dcmp .l, 1) := by decide +kernel
theorem dL_law_2436 : decode cL_law 2436 = .ok (.ifCond .ne 5, 3) := by decide +kernel
theorem dL_law_2439 : decode cL_law 2439 = .ok (.iconst 0, 1) := by decide +kernel
theorem dL_law_2440 : decode cL_law 2440 = .ok (.ireturn, 1) := by decide +kernel
theorem dL_law_2441 : decode cL_law 2441 = .ok (.goto 553, 3) := by decide +kernel
theorem dL_law_2444 : decode cL_law 2444 = .ok (.aload_n 1, 1) := by decide +kernel
theorem dL_law_2445 : decode cL_law 2445 = .ok (.aload_n 0, 1) := by decide +kernel
theorem dL_law_2446 : decode cL_law 2446 = .ok (.iload 5, 2) := by decide +kernel
theorem dL_law_2448 : decode cL_law 2448 = .ok (.iconst 1, 1) := by decide +kernel
theorem dL_law_2449 : decode cL_law 2449 = .ok (.iadd, 1) := by decide +kernel
theorem dL_law_2450 : decode cL_law 2450 = .ok (.iaload, 1) := by decide +kernel
theorem dL_law_2451 : decode cL_law 2451 = .ok (.aload 4, 2) := by decide +kernel
theorem dL_law_2453 : decode cL_law 2453 = .ok (.invokestatic 320, 3) := by decide +kernel
theorem dL_law_2456 : decode cL_law 2456 = .ok (.istore 6, 2) := by decide +kernel
theorem dL_law_2458 : decode cL_law 2458 = .ok (.aload_n 2, 1) := by decide +kernel
theorem dL_law_2459 : decode cL_law 2459 = .ok (.aload_n 0, 1) := by decide +kernel
theorem dL_law_2460 : decode cL_law 2460 = .ok (.iload 5, 2) := by decide +kernel
theorem dL_law_2462 : decode cL_law 2462 = .ok (.iconst 1, 1) := by decide +kernel
theorem dL_law_2463 : decode cL_law 2463 = .ok (.iadd, 1) := by decide +kernel
theorem dL_law_2464 : decode cL_law 2464 = .ok (.iaload, 1) := by decide +kernel
theorem dL_law_2465 : decode cL_law 2465 = .ok (.invokevirtual 323, 3) := by decide +kernel
theorem dL_law_2468 : decode cL_law 2468 = .ok (.fstore 7, 2) := by decide +kernel
theorem dL_law_2470 : decode cL_law 2470 = .ok (.aload_n 2, 1) := by decide +kernel
theorem dL_law_2471 : decode cL_law 2471 = .ok (.invokevirtual 171, 3) := by decide +kernel
theorem dL_law_2474 : decode cL_law 2474 = .ok (.iload 6, 2) := by decide +kernel
theorem dL_law_2476 : decode cL_law 2476 = .ok (.if_icmp .eq 5, 3) := by decide +kernel
theorem dL_law_2479 : decode cL_law 2479 = .ok (.iconst 0, 1) := by decide +kernel
theorem dL_law_2480 : decode cL_law 2480 = .ok (.ireturn, 1) := by decide +kernel
theorem dL_law_2481 : decode cL_law 2481 = .ok (.iload 6, 2) := by decide +kernel
theorem dL_law_2483 : decode cL_law 2483 = .ok (.ifCond .ne 36, 3) := by decide +kernel
theorem dL_law_2486 : decode cL_law 2486 = .ok (.aload 4, 2) := by decide +kernel
theorem dL_law_2488 : decode cL_law 2488 = .ok (.iconst 0, 1) := by decide +kernel
theorem dL_law_2489 : decode cL_law 2489 = .ok (.daload, 1) := by decide +kernel
theorem dL_law_2490 : decode cL_law 2490 = .ok (.fload 7, 2) := by decide +kernel
theorem dL_law_2492 : decode cL_law 2492 = .ok (.f2d, 1) := by decide +kernel
theorem dL_law_2493 : decode cL_law 2493 = .ok (.dcmp .l, 1) := by decide +kernel
theorem dL_law_2494 : decode cL_law 2494 = .ok (.ifCond .eq 25, 3) := by decide +kernel
theorem dL_law_2497 : decode cL_law 2497 = .ok (.aload 4, 2) := by decide +kernel
theorem dL_law_2499 : decode cL_law 2499 = .ok (.iconst 0, 1) := by decide +kernel
theorem dL_law_2500 : decode cL_law 2500 = .ok (.daload, 1) := by decide +kernel
theorem dL_law_2501 : decode cL_law 2501 = .ok (.aload 4, 2) := by decide +kernel
theorem dL_law_2503 : decode cL_law 2503 = .ok (.iconst 0, 1) := by decide +kernel
theorem dL_law_2504 : decode cL_law 2504 = .ok (.daload, 1) := by decide +kernel
theorem dL_law_2505 : decode cL_law 2505 = .ok (.dcmp .l, 1) := by decide +kernel
theorem dL_law_2506 : decode cL_law 2506 = .ok (.ifCond .eq 11, 3) := by decide +kernel
theorem dL_law_2509 : decode cL_law 2509 = .ok (.fload 7, 2) := by decide +kernel
theorem dL_law_2511 : decode cL_law 2511 = .ok (.fload 7, 2) := by decide +kernel
theorem dL_law_2513 : decode cL_law 2513 = .ok (.fcmp .l, 1) := by decide +kernel
theorem dL_law_2514 : decode cL_law 2514 = .ok (.ifCond .ne 5, 3) := by decide +kernel
theorem dL_law_2517 : decode cL_law 2517 = .ok (.iconst 0, 1) := by decide +kernel
theorem dL_law_2518 : decode cL_law 2518 = .ok (.ireturn, 1) := by decide +kernel
theorem dL_law_2519 : decode cL_law 2519 = .ok (.goto 475, 3) := by decide +kernel
theorem dL_law_2522 : decode cL_law 2522 = .ok (.aload_n 1, 1) := by decide +kernel
theorem dL_law_2523 : decode cL_law 2523 = .ok (.invokevirtual 324, 3) := by decide +kernel
theorem dL_law_2526 : decode cL_law 2526 = .ok (.aload_n 2, 1) := by decide +kernel
theorem dL_law_2527 : decode cL_law 2527 = .ok (.invokevirtual 328, 3) := by decide +kernel
theorem dL_law_2530 : decode cL_law 2530 = .ok (.if_icmp .eq 464, 3) := by decide +kernel
theorem dL_law_2533 : decode cL_law 2533 = .ok (.iconst 0, 1) := by decide +kernel
theorem dL_law_2534 : decode cL_law 2534 = .ok (.ireturn, 1) := by decide +kernel
theorem dL_law_2535 : decode cL_law 2535 = .ok (.aload_n 1, 1) := by decide +kernel
theorem dL_law_2536 : decode cL_law 2536 = .ok (.aload_n 0, 1) := by decide +kernel
theorem dL_law_2537 : decode cL_law 2537 = .ok (.iload 5, 2) := by decide +kernel
theorem dL_law_2539 : decode cL_law 2539 = .ok (.iconst 1, 1) := by decide +kernel
theorem dL_law_2540 : decode cL_law 2540 = .ok (.iadd, 1) := by decide +kernel
theorem dL_law_2541 : decode cL_law 2541 = .ok (.iaload, 1) := by decide +kernel
theorem dL_law_2542 : decode cL_law 2542 = .ok (.aload_n 3, 1) := by decide +kernel
theorem dL_law_2543 : decode cL_law 2543 = .ok (.invokestatic 329, 3) := by decide +kernel
theorem dL_law_2546 : decode cL_law 2546 = .ok (.istore 6, 2) := by decide +kernel
theorem dL_law_2548 : decode cL_law 2548 = .ok (.aload_n 2, 1) := by decide +kernel
theorem dL_law_2549 : decode cL_law 2549 = .ok (.aload_n 0, 1) := by decide +kernel
theorem dL_law_2550 : decode cL_law 2550 = .ok (.iload 5, 2) := by decide +kernel
theorem dL_law_2552 : decode cL_law 2552 = .ok (.iconst 1, 1) := by decide +kernel
theorem dL_law_2553 : decode cL_law 2553 = .ok (.iadd, 1) := by decide +kernel
theorem dL_law_2554 : decode cL_law 2554 = .ok (.iaload, 1) := by decide +kernel
theorem dL_law_2555 : decode cL_law 2555 = .ok (.invokevirtual 331, 3) := by decide +kernel
theorem dL_law_2558 : decode cL_law 2558 = .ok (.istore 7, 2) := by decide +kernel
theorem dL_law_2560 : decode cL_law 2560 = .ok (.aload_n 2, 1) := by decide +kernel
theorem dL_law_2561 : decode cL_law 2561 = .ok (.invokevirtual 171, 3) := by decide +kernel
theorem dL_law_2564 : decode cL_law 2564 = .ok (.iload 6, 2) := by decide +kernel
theorem dL_law_2566 : decode cL_law 2566 = .ok (.if_icmp .eq 5, 3) := by decide +kernel
theorem dL_law_2569 : decode cL_law 2569 = .ok (.iconst 0, 1) := by decide +kernel
theorem dL_law_2570 : decode cL_law 2570 = .ok (.ireturn, 1) := by decide +kernel
theorem dL_law_2571 : decode cL_law 2571 = .ok (.iload 6, 2) := by decide +kernel
theorem dL_law_2573 : decode cL_law 2573 = .ok (.ifCond .ne 15, 3) := by decide +kernel
theorem dL_law_2576 : decode cL_law 2576 = .ok (.aload_n 3, 1) := by decide +kernel
theorem dL_law_2577 : decode cL_law 2577 = .ok (.iconst 0, 1) := by decide +kernel
theorem dL_law_2578 : decode cL_law 2578 = .ok (.laload, 1) := by decide +kernel
theorem dL_law_2579 : decode cL_law 2579 = .ok (.iload 7, 2) := by decide +kernel
theorem dL_law_2581 : decode cL_law 2581 = .ok (.i2l, 1) := by decide +kernel
theorem dL_law_2582 : decode cL_law 2582 = .ok (.lcmp, 1) := by decide +kernel
theorem dL_law_2583 : decode cL_law 2583 = .ok (.ifCond .eq 5, 3) := by decide +kernel
theorem dL_law_2586 : decode cL_law 2586 = .ok (.iconst 0, 1) := by decide +kernel
theorem dL_law_2587 : decode cL_law 2587 = .ok (.ireturn, 1) := by decide +kernel
theorem dL_law_2588 : decode cL_law 2588 = .ok (.goto 406, 3) := by decide +kernel
theorem dL_law_2591 : decode cL_law 2591 = .ok (.aload_n 1, 1) := by decide +kernel
theorem dL_law_2592 : decode cL_law 2592 = .ok (.aload_n 0, 1) := by decide +kernel
theorem dL_law_2593 : decode cL_law 2593 = .ok (.iload 5, 2) := by decide +kernel
theorem dL_law_2595 : decode cL_law 2595 = .ok (.iconst 1, 1) := by decide +kernel
theorem dL_law_2596 : decode cL_law 2596 = .ok (.iadd, 1) := by decide +kernel
theorem dL_law_2597 : decode cL_law 2597 = .ok (.iaload, 1) := by decide +kernel
theorem dL_law_2598 : decode cL_law 2598 = .ok (.aload_n 3, 1) := by decide +kernel
theorem dL_law_2599 : decode cL_law 2599 = .ok (.invokestatic 332, 3) := by decide +kernel
theorem dL_law_2602 : decode cL_law 2602 = .ok (.istore 6, 2) := by decide +kernel
theorem dL_law_2604 : decode cL_law 2604 = .ok (.aload_n 2, 1) := by decide +kernel
theorem dL_law_2605 : decode cL_law 2605 = .ok (.aload_n 0, 1) := by decide +kernel
theorem dL_law_2606 : decode cL_law 2606 = .ok (.iload 5, 2) := by decide +kernel
theorem dL_law_2608 : decode cL_law 2608 = .ok (.iconst 1, 1) := by decide +kernel
theorem dL_law_2609 : decode cL_law 2609 = .ok (.iadd, 1) := by decide +kernel
theorem dL_law_2610 : decode cL_law 2610 = .ok (.iaload, 1) := by decide +kernel
theorem dL_law_2611 : decode cL_law 2611 = .ok (.invokevirtual 334, 3) := by decide +kernel
theorem dL_law_2614 : decode cL_law 2614 = .ok (.istore 7, 2) := by decide +kernel
theorem dL_law_2616 : decode cL_law 2616 = .ok (.aload_n 2, 1) := by decide +kernel
theorem dL_law_2617 : decode cL_law 2617 = .ok (.invokevirtual 171, 3) := by decide +kernel
theorem dL_law_2620 : decode cL_law 2620 = .ok (.iload 6, 2) := by decide +kernel
theorem dL_law_2622 : decode cL_law 2622 = .ok (.if_icmp .eq 5, 3) := by decide +kernel
theorem dL_law_2625 : decode cL_law 2625 = .ok (.iconst 0, 1) := by decide +kernel
theorem dL_law_2626 : decode cL_law 2626 = .ok (.ireturn, 1) := by decide +kernel
theorem dL_law_2627 : decode cL_law 2627 = .ok (.iload 6, 2) := by decide +kernel
theorem dL_law_2629 : decode cL_law 2629 = .ok (.ifCond .ne 15, 3) := by decide +kernel
theorem dL_law_2632 : decode cL_law 2632 = .ok (.aload_n 3, 1) := by decide +kernel
theorem dL_law_2633 : decode cL_law 2633 = .ok (.iconst 0, 1) := by decide +kernel
theorem dL_law_2634 : decode cL_law 2634 = .ok (.laload, 1) := by decide +kernel
theorem dL_law_2635 : decode cL_law 2635 = .ok (.iload 7, 2) := by decide +kernel
theorem dL_law_2637 : decode cL_law 2637 = .ok (.i2l, 1) := by decide +kernel
theorem dL_law_2638 : decode cL_law 2638 = .ok (.lcmp, 1) := by decide +kernel
theorem dL_law_2639 : decode cL_law 2639 = .ok (.ifCond .eq 5, 3) := by decide +kernel
theorem dL_law_2642 : decode cL_law 2642 = .ok (.iconst 0, 1) := by decide +kernel
theorem dL_law_2643 : decode cL_law 2643 = .ok (.ireturn, 1) := by decide +kernel
theorem dL_law_2644 : decode cL_law 2644 = .ok (.goto 350, 3) := by decide +kernel
theorem dL_law_2647 : decode cL_law 2647 = .ok (.aload_n 1, 1) := by decide +kernel
theorem dL_law_2648 : decode cL_law 2648 = .ok (.aload_n 0, 1) := by decide +kernel
theorem dL_law_2649 : decode cL_law 2649 = .ok (.iload 5, 2) := by decide +kernel
theorem dL_law_2651 : decode cL_law 2651 = .ok (.iconst 1, 1) := by decide +kernel
theorem dL_law_2652 : decode cL_law 2652 = .ok (.iadd, 1) := by decide +kernel
theorem dL_law_2653 : decode cL_law 2653 = .ok (.iaload, 1) := by decide +kernel
theorem dL_law_2654 : decode cL_law 2654 = .ok (.aload_n 3, 1) := by decide +kernel
theorem dL_law_2655 : decode cL_law 2655 = .ok (.invokestatic 335, 3) := by decide +kernel
theorem dL_law_2658 : decode cL_law 2658 = .ok (.istore 6, 2) := by decide +kernel
theorem dL_law_2660 : decode cL_law 2660 = .ok (.aload_n 2, 1) := by decide +kernel
theorem dL_law_2661 : decode cL_law 2661 = .ok (.aload_n 0, 1) := by decide +kernel
theorem dL_law_2662 : decode cL_law 2662 = .ok (.iload 5, 2) := by decide +kernel
theorem dL_law_2664 : decode cL_law 2664 = .ok (.iconst 1, 1) := by decide +kernel
theorem dL_law_2665 : decode cL_law 2665 = .ok (.iadd, 1) := by decide +kernel
theorem dL_law_2666 : decode cL_law 2666 = .ok (.iaload, 1) := by decide +kernel
theorem dL_law_2667 : decode cL_law 2667 = .ok (.invokevirtual 337, 3) := by decide +kernel
theorem dL_law_2670 : decode cL_law 2670 = .ok (.istore 7, 2) := by decide +kernel
theorem dL_law_2672 : decode cL_law 2672 = .ok (.aload_n 2, 1) := by decide +kernel
theorem dL_law_2673 : decode cL_law 2673 = .ok (.invokevirtual 171, 3) := by decide +kernel
theorem dL_law_2676 : decode cL_law 2676 = .ok (.iload 6, 2) := by decide +kernel
theorem dL_law_2678 : decode cL_law 2678 = .ok (.if_icmp .eq 5, 3) := by decide +kernel
theorem dL_law_2681 : decode cL_law 2681 = .ok (.iconst 0, 1) := by decide +kernel
theorem dL_law_2682 : decode cL_law 2682 = .ok (.ireturn, 1) := by decide +kernel
theorem dL_law_2683 : decode cL_law 2683 = .ok (.iload 6, 2) := by decide +kernel
theorem dL_law_2685 : decode cL_law 2685 = .ok (.ifCond .ne 15, 3) := by decide +kernel
theorem dL_law_2688 : decode cL_law 2688 = .ok (.aload_n 3, 1) := by decide +kernel
theorem dL_law_2689 : decode cL_law 2689 = .ok (.iconst 0, 1) := by decide +kernel
theorem dL_law_2690 : decode cL_law 2690 = .ok (.laload, 1) := by decide +kernel
theorem dL_law_2691 : decode cL_law 2691 = .ok (.iload 7, 2) := by decide +kernel
theorem dL_law_2693 : decode cL_law 2693 = .ok (.i2l, 1) := by decide +kernel
theorem dL_law_2694 : decode cL_law 2694 = .ok (.lcmp, 1) := by decide +kernel
theorem dL_law_2695 : decode cL_law 2695 = .ok (.ifCond .eq 5, 3) := by decide +kernel
theorem dL_law_2698 : decode cL_law 2698 = .ok (.iconst 0, 1) := by decide +kernel
theorem dL_law_2699 : decode cL_law 2699 = .ok (.ireturn, 1) := by decide +kernel
theorem dL_law_2700 : decode cL_law 2700 = .ok (.goto 294, 3) := by decide +kernel
theorem dL_law_2703 : decode cL_law 2703 = .ok (.aload_n 1, 1) := by decide +kernel
theorem dL_law_2704 : decode cL_law 2704 = .ok (.aload_n 0, 1) := by decide +kernel
theorem dL_law_2705 : decode cL_law 2705 = .ok (.iload 5, 2) := by decide +kernel
theorem dL_law_2707 : decode cL_law 2707 = .ok (.iconst 1, 1) := by decide +kernel
theorem dL_law_2708 : decode cL_law 2708 = .ok (.iadd, 1) := by decide +kernel
theorem dL_law_2709 : decode cL_law 2709 = .ok (.iaload, 1) := by decide +kernel
theorem dL_law_2710 : decode cL_law 2710 = .ok (.i2c, 1) := by decide +kernel
theorem dL_law_2711 : decode cL_law 2711 = .ok (.aload_n 3, 1) := by decide +kernel
theorem dL_law_2712 : decode cL_law 2712 = .ok (.invokestatic 338, 3) := by decide +kernel
theorem dL_law_2715 : decode cL_law 2715 = .ok (.istore 6, 2) := by decide +kernel
theorem dL_law_2717 : decode cL_law 2717 = .ok (.aload_n 2, 1) := by decide +kernel
theorem dL_law_2718 : decode cL_law 2718 = .ok (.aload_n 0, 1) := by decide +kernel
theorem dL_law_2719 : decode cL_law 2719 = .ok (.iload 5, 2) := by decide +kernel
theorem dL_law_2721 : decode cL_law 2721 = .ok (.iconst 1, 1) := by decide +kernel
theorem dL_law_2722 : decode cL_law 2722 = .ok (.iadd, 1) := by decide +kernel
theorem dL_law_2723 : decode cL_law 2723 = .ok (.iaload, 1) := by decide +kernel
theorem dL_law_2724 : decode cL_law 2724 = .ok (.i2c, 1) := by decide +kernel
theorem dL_law_2725 : decode cL_law 2725 = .ok (.invokevirtual 341, 3) := by decide +kernel
theorem dL_law_2728 : decode cL_law 2728 = .ok (.istore 7, 2) := by decide +kernel
theorem dL_law_2730 : decode cL_law 2730 = .ok (.aload_n 2, 1) := by decide +kernel
theorem dL_law_2731 : decode cL_law 2731 = .ok (.invokevirtual 171, 3) := by decide +kernel
theorem dL_law_2734 : decode cL_law 2734 = .ok (.iload 6, 2) := by decide +kernel
theorem dL_law_2736 : decode cL_law 2736 = .ok (.if_icmp .eq 5, 3) := by decide +kernel
theorem dL_law_2739 : decode cL_law 2739 = .ok (.iconst 0, 1) := by decide +kernel
theorem dL_law_2740 : decode cL_law 2740 = .ok (.ireturn, 1) := by decide +kernel
theorem dL_law_2741 : decode cL_law 2741 = .ok (.iload 6, 2) := by decide +kernel
theorem dL_law_2743 : decode cL_law 2743 = .ok (.ifCond .ne 15, 3) := by decide +kernel
theorem dL_law_2746 : decode cL_law 2746 = .ok (.aload_n 3, 1) := by decide +kernel
theorem dL_law_2747 : decode cL_law 2747 = .ok (.iconst 0, 1) := by decide +kernel
theorem dL_law_2748 : decode cL_law 2748 = .ok (.laload, 1) := by decide +kernel
theorem dL_law_2749 : decode cL_law 2749 = .ok (.iload 7, 2) := by decide +kernel
theorem dL_law_2751 : decode cL_law 2751 = .ok (.i2l, 1) := by decide +kernel
theorem dL_law_2752 : decode cL_law 2752 = .ok (.lcmp, 1) := by decide +kernel
theorem dL_law_2753 : decode cL_law 2753 = .ok (.ifCond .eq 5, 3) := by decide +kernel
theorem dL_law_2756 : decode cL_law 2756 = .ok (.iconst 0, 1) := by decide +kernel
theorem dL_law_2757 : decode cL_law 2757 = .ok (.ireturn, 1) := by decide +kernel
theorem dL_law_2758 : decode cL_law 2758 = .ok (.goto 236, 3) := by decide +kernel
theorem dL_law_2761 : decode cL_law 2761 = .ok (.aload_n 1, 1) := by decide +kernel
theorem dL_law_2762 : decode cL_law 2762 = .ok (.aload_n 3, 1) := by decide +kernel
theorem dL_law_2763 : decode cL_law 2763 = .ok (.invokestatic 342, 3) := by decide +kernel
theorem dL_law_2766 : decode cL_law 2766 = .ok (.istore 6, 2) := by decide +kernel
theorem dL_law_2768 : decode cL_law 2768 = .ok (.aload_n 2, 1) := by decide +kernel
theorem dL_law_2769 : decode cL_law 2769 = .ok (.invokevirtual 344, 3) := by decide +kernel
theorem dL_law_2772 : decode cL_law 2772 = .ok (.istore 7, 2) := by decide +kernel
theorem dL_law_2774 : decode cL_law 2774 = .ok (.aload_n 2, 1) := by decide +kernel
theorem dL_law_2775 : decode cL_law 2775 = .ok (.invokevirtual 171, 3) := by decide +kernel
theorem dL_law_2778 : decode cL_law 2778 = .ok (.iload 6, 2) := by decide +kernel
theorem dL_law_2780 : decode cL_law 2780 = .ok (.if_icmp .eq 5, 3) := by decide +kernel
theorem dL_law_2783 : decode cL_law 2783 = .ok (.iconst 0, 1) := by decide +kernel
theorem dL_law_2784 : decode cL_law 2784 = .ok (.ireturn, 1) := by decide +kernel
theorem dL_law_2785 : decode cL_law 2785 = .ok (.iload 6, 2) := by decide +kernel
theorem dL_law_2787 : decode cL_law 2787 = .ok (.ifCond .ne 15, 3) := by decide +kernel
theorem dL_law_2790 : decode cL_law 2790 = .ok (.aload_n 3, 1) := by decide +kernel
theorem dL_law_2791 : decode cL_law 2791 = .ok (.iconst 0, 1) := by decide +kernel
theorem dL_law_2792 : decode cL_law 2792 = .ok (.laload, 1) := by decide +kernel
theorem dL_law_2793 : decode cL_law 2793 = .ok (.iload 7, 2) := by decide +kernel
theorem dL_law_2795 : decode cL_law 2795 = .ok (.i2l, 1) := by decide +kernel
theorem dL_law_2796 : decode cL_law 2796 = .ok (.lcmp, 1) := by decide +kernel
theorem dL_law_2797 : decode cL_law 2797 = .ok (.ifCond .eq 5, 3) := by decide +kernel
theorem dL_law_2800 : decode cL_law 2800 = .ok (.iconst 0, 1) := by decide +kernel
theorem dL_law_2801 : decode cL_law 2801 = .ok (.ireturn, 1) := by decide +kernel
theorem dL_law_2802 : decode cL_law 2802 = .ok (.goto 192, 3) := by decide +kernel
theorem dL_law_2805 : decode cL_law 2805 = .ok (.aload_n 1, 1) := by decide +kernel
theorem dL_law_2806 : decode cL_law 2806 = .ok (.aload_n 3, 1) := by decide +kernel
theorem dL_law_2807 : decode cL_law 2807 = .ok (.invokestatic 345, 3) := by decide +kernel
theorem dL_law_2810 : decode cL_law 2810 = .ok (.istore 6, 2) := by decide +kernel
theorem dL_law_2812 : decode cL_law 2812 = .ok (.aload_n 2, 1) := by decide +kernel
theorem dL_law_2813 : decode cL_law 2813 = .ok (.invokevirtual 347, 3) := by decide +kernel
theorem dL_law_2816 : decode cL_law 2816 = .ok (.istore 7, 2) := by decide +kernel
theorem dL_law_2818 : decode cL_law 2818 = .ok (.aload_n 2, 1) := by decide +kernel
theorem dL_law_2819 : decode cL_law 2819 = .ok (.invokevirtual 171, 3) := by decide +kernel
theorem dL_law_2822 : decode cL_law 2822 = .ok (.iload 6, 2) := by decide +kernel
theorem dL_law_2824 : decode cL_law 2824 = .ok (.if_icmp .eq 5, 3) := by decide +kernel
theorem dL_law_2827 : decode cL_law 2827 = .ok (.iconst 0, 1) := by decide +kernel
theorem dL_law_2828 : decode cL_law 2828 = .ok (.ireturn, 1) := by decide +kernel
theorem dL_law_2829 : decode cL_law 2829 = .ok (.iload 6, 2) := by decide +kernel
theorem dL_law_2831 : decode cL_law 2831 = .ok (.ifCond .ne 15, 3) := by decide +kernel
theorem dL_law_2834 : decode cL_law 2834 = .ok (.aload_n 3, 1) := by decide +kernel
theorem dL_law_2835 : decode cL_law 2835 = .ok (.iconst 0, 1) := by decide +kernel
theorem dL_law_2836 : decode cL_law 2836 = .ok (.laload, 1) := by decide +kernel
theorem dL_law_2837 : decode cL_law 2837 = .ok (.iload 7, 2) := by decide +kernel
theorem dL_law_2839 : decode cL_law 2839 = .ok (.i2l, 1) := by decide +kernel
theorem dL_law_2840 : decode cL_law 2840 = .ok (.lcmp, 1) := by decide +kernel
theorem dL_law_2841 : decode cL_law 2841 = .ok (.ifCond .eq 5, 3) := by decide +kernel
theorem dL_law_2844 : decode cL_law 2844 = .ok (.iconst 0, 1) := by decide +kernel
theorem dL_law_2845 : decode cL_law 2845 = .ok (.ireturn, 1) := by decide +kernel
theorem dL_law_2846 : decode cL_law 2846 = .ok (.goto 148, 3) := by decide +kernel
theorem dL_law_2849 : decode cL_law 2849 = .ok (.aload_n 1, 1) := by decide +kernel
theorem dL_law_2850 : decode cL_law 2850 = .ok (.aload_n 3, 1) := by decide +kernel
theorem dL_law_2851 : decode cL_law 2851 = .ok (.invokestatic 348, 3) := by decide +kernel
theorem dL_law_2854 : decode cL_law 2854 = .ok (.istore 6, 2) := by decide +kernel
theorem dL_law_2856 : decode cL_law 2856 = .ok (.aload_n 2, 1) := by decide +kernel
theorem dL_law_2857 : decode cL_law 2857 = .ok (.invokevirtual 350, 3) := by decide +kernel
theorem dL_law_2860 : decode cL_law 2860 = .ok (.istore 7, 2) := by decide +kernel
theorem dL_law_2862 : decode cL_law 2862 = .ok (.aload_n 2, 1) := by decide +kernel
theorem dL_law_2863 : decode cL_law 2863 = .ok (.invokevirtual 171, 3) := by decide +kernel
theorem dL_law_2866 : decode cL_law 2866 = .ok (.iload 6, 2) := by decide +kernel
theorem dL_law_2868 : decode cL_law 2868 = .ok (.if_icmp .eq 5, 3) := by decide +kernel
theorem dL_law_2871 : decode cL_law 2871 = .ok (.iconst 0, 1) := by decide +kernel
theorem dL_law_2872 : decode cL_law 2872 = .ok (.ireturn, 1) := by decide +kernel
theorem dL_law_2873 : decode cL_law 2873 = .ok (.iload 6, 2) := by decide +kernel
theorem dL_law_2875 : decode cL_law 2875 = .ok (.ifCond .ne 15, 3) := by decide +kernel
theorem dL_law_2878 : decode cL_law 2878 = .ok (.aload_n 3, 1) := by decide +kernel
theorem dL_law_2879 : decode cL_law 2879 = .ok (.iconst 0, 1) := by decide +kernel
theorem dL_law_2880 : decode cL_law 2880 = .ok (.laload, 1) := by decide +kernel
theorem dL_law_2881 : decode cL_law 2881 = .ok (.iload 7, 2) := by decide +kernel
theorem dL_law_2883 : decode cL_law 2883 = .ok (.i2l, 1) := by decide +kernel
theorem dL_law_2884 : decode cL_law 2884 = .ok (.lcmp, 1) := by decide +kernel
theorem dL_law_2885 : decode cL_law 2885 = .ok (.ifCond .eq 5, 3) := by decide +kernel
theorem dL_law_2888 : decode cL_law 2888 = .ok (.iconst 0, 1) := by decide +kernel
theorem dL_law_2889 : decode cL_law 2889 = .ok (.ireturn, 1) := by decide +kernel
theorem dL_law_2890 : decode cL_law 2890 = .ok (.goto 104, 3) := by decide +kernel
theorem dL_law_2893 : decode cL_law 2893 = .ok (.aload_n 1, 1) := by decide +kernel
theorem dL_law_2894 : decode cL_law 2894 = .ok (.aload_n 3, 1) := by decide +kernel
theorem dL_law_2895 : decode cL_law 2895 = .ok (.invokestatic 351, 3) := by decide +kernel
theorem dL_law_2898 : decode cL_law 2898 = .ok (.istore 6, 2) := by decide +kernel
theorem dL_law_2900 : decode cL_law 2900 = .ok (.aload_n 2, 1) := by decide +kernel
theorem dL_law_2901 : decode cL_law 2901 = .ok (.invokevirtual 353, 3) := by decide +kernel
theorem dL_law_2904 : decode cL_law 2904 = .ok (.istore 7, 2) := by decide +kernel
theorem dL_law_2906 : decode cL_law 2906 = .ok (.aload_n 2, 1) := by decide +kernel
theorem dL_law_2907 : decode cL_law 2907 = .ok (.invokevirtual 171, 3) := by decide +kernel
theorem dL_law_2910 : decode cL_law 2910 = .ok (.iload 6, 2) := by decide +kernel
theorem dL_law_2912 : decode cL_law 2912 = .ok (.if_icmp .eq 5, 3) := by decide +kernel
theorem dL_law_2915 : decode cL_law 2915 = .ok (.iconst 0, 1) := by decide +kernel
theorem dL_law_2916 : decode cL_law 2916 = .ok (.ireturn, 1) := by decide +kernel
theorem dL_law_2917 : decode cL_law 2917 = .ok (.iload 6, 2) := by decide +kernel
theorem dL_law_2919 : decode cL_law 2919 = .ok (.ifCond .ne 15, 3) := by decide +kernel
theorem dL_law_2922 : decode cL_law 2922 = .ok (.aload_n 3, 1) := by decide +kernel
theorem dL_law_2923 : decode cL_law 2923 = .ok (.iconst 0, 1) := by decide +kernel
theorem dL_law_2924 : decode cL_law 2924 = .ok (.laload, 1) := by decide +kernel
theorem dL_law_2925 : decode cL_law 2925 = .ok (.iload 7, 2) := by decide +kernel
theorem dL_law_2927 : decode cL_law 2927 = .ok (.i2l, 1) := by decide +kernel
theorem dL_law_2928 : decode cL_law 2928 = .ok (.lcmp, 1) := by decide +kernel
theorem dL_law_2929 : decode cL_law 2929 = .ok (.ifCond .eq 5, 3) := by decide +kernel
theorem dL_law_2932 : decode cL_law 2932 = .ok (.iconst 0, 1) := by decide +kernel
theorem dL_law_2933 : decode cL_law 2933 = .ok (.ireturn, 1) := by decide +kernel
theorem dL_law_2934 : decode cL_law 2934 = .ok (.goto 60, 3) := by decide +kernel
theorem dL_law_2937 : decode cL_law 2937 = .ok (.aload_n 1, 1) := by decide +kernel
theorem dL_law_2938 : decode cL_law 2938 = .ok (.invokevirtual 354, 3) := by decide +kernel
theorem dL_law_2941 : decode cL_law 2941 = .ok (.aload_n 2, 1) := by decide +kernel
theorem dL_law_2942 : decode cL_law 2942 = .ok (.invokevirtual 357, 3) := by decide +kernel
theorem dL_law_2945 : decode cL_law 2945 = .ok (.if_icmp .eq 49, 3) := by decide +kernel
theorem dL_law_2948 : decode cL_law 2948 = .ok (.iconst 0, 1) := by decide +kernel
theorem dL_law_2949 : decode cL_law 2949 = .ok (.ireturn, 1) := by decide +kernel
theorem dL_law_2950 : decode cL_law 2950 = .ok (.aload_n 1, 1) := by decide +kernel
theorem dL_law_2951 : decode cL_law 2951 = .ok (.aload_n 3, 1) := by decide +kernel
theorem dL_law_2952 : decode cL_law 2952 = .ok (.invokestatic 358, 3) := by decide +kernel
theorem dL_law_2955 : decode cL_law 2955 = .ok (.istore 6, 2) := by decide +kernel
theorem dL_law_2957 : decode cL_law 2957 = .ok (.aload_n 2, 1) := by decide +kernel
theorem dL_law_2958 : decode cL_law 2958 = .ok (.invokevirtual 360, 3) := by decide +kernel
theorem dL_law_2961 : decode cL_law 2961 = .ok (.istore 7, 2) := by decide +kernel
theorem dL_law_2963 : decode cL_law 2963 = .ok (.aload_n 2, 1) := by decide +kernel
theorem dL_law_2964 : decode cL_law 2964 = .ok (.invokevirtual 171, 3) := by decide +kernel
theorem dL_law_2967 : decode cL_law 2967 = .ok (.iload 6, 2) := by decide +kernel
theorem dL_law_2969 : decode cL_law 2969 = .ok (.if_icmp .eq 5, 3) := by decide +kernel
theorem dL_law_2972 : decode cL_law 2972 = .ok (.iconst 0, 1) := by decide +kernel
theorem dL_law_2973 : decode cL_law 2973 = .ok (.ireturn, 1) := by decide +kernel
theorem dL_law_2974 : decode cL_law 2974 = .ok (.iload 6, 2) := by decide +kernel
theorem dL_law_2976 : decode cL_law 2976 = .ok (.ifCond .ne 15, 3) := by decide +kernel
theorem dL_law_2979 : decode cL_law 2979 = .ok (.aload_n 3, 1) := by decide +kernel
theorem dL_law_2980 : decode cL_law 2980 = .ok (.iconst 0, 1) := by decide +kernel
theorem dL_law_2981 : decode cL_law 2981 = .ok (.laload, 1) := by decide +kernel
theorem dL_law_2982 : decode cL_law 2982 = .ok (.iload 7, 2) := by decide +kernel
theorem dL_law_2984 : decode cL_law 2984 = .ok (.i2l, 1) := by decide +kernel
theorem dL_law_2985 : decode cL_law 2985 = .ok (.lcmp, 1) := by decide +kernel
theorem dL_law_2986 : decode cL_law 2986 = .ok (.ifCond .eq 5, 3) := by decide +kernel
theorem dL_law_2989 : decode cL_law 2989 = .ok (.iconst 0, 1) := by decide +kernel
theorem dL_law_2990 : decode cL_law 2990 = .ok (.ireturn, 1) := by decide +kernel
theorem dL_law_2991 : decode cL_law 2991 = .ok (.goto 3, 3) := by decide +kernel
theorem dL_law_2994 : decode cL_law 2994 = .ok (.iinc 5 5, 3) := by decide +kernel
theorem dL_law_2997 : decode cL_law 2997 = .ok (.goto (-2969), 3) := by decide +kernel
theorem dL_law_3000 : decode cL_law 3000 = .ok (.iconst 1, 1) := by decide +kernel
theorem dL_law_3001 : decode cL_law 3001 = .ok (.ireturn, 1) := by decide +kernel
