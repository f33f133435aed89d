theorem inC1 : inC 1 := by unfold inC; decide +kernel
theorem okC1 : okC 1 := ⟨inC1, nmX1, tyX1_ok⟩
theorem inC2 : inC 2 := by unfold inC; decide +kernel
theorem okC2 : okC 2 := ⟨inC2, nmX2, tyX2_ok⟩
theorem inC3 : inC 3 := by unfold inC; decide +kernel
theorem okC3 : okC 3 := ⟨inC3, nmX3, tyX3_ok⟩
theorem inC4 : inC 4 := by unfold inC; decide +kernel
theorem okC4 : okC 4 := ⟨inC4, nmX4, tyX4_ok⟩
theorem inC5 : inC 5 := by unfold inC; decide +kernel
theorem okC5 : okC 5 := ⟨inC5, nmX5, tyX5_ok⟩
theorem inC6 : inC 6 := by unfold inC; decide +kernel
theorem okC6 : okC 6 := ⟨inC6, nmX6, tyX6_ok⟩
theorem inC8 : inC 8 := by unfold inC; decide +kernel
theorem okC8 : okC 8 := ⟨inC8, nmX8, tyX8_ok⟩
theorem inC9 : inC 9 := by unfold inC; decide +kernel
theorem okC9 : okC 9 := ⟨inC9, nmX9, tyX9_ok⟩
theorem W0 : Cond.selects yX8_settled.cls yX8_settled yX8_settled ∈ BIG := big_mem (i := 0) (by decide +kernel) (by decide +kernel)
theorem W2 : Cond.selects yX8_presentSection.cls yX8_presentSection yX8_presentSection ∈ BIG := big_mem (i := 2) (by decide +kernel) (by decide +kernel)
theorem W3 : Cond.selects yX8_isPeriod.cls yX8_isPeriod yX8_isPeriod ∈ BIG := big_mem (i := 3) (by decide +kernel) (by decide +kernel)
theorem W4 : Cond.selects yX8_soundsVolume.cls yX8_soundsVolume yX8_soundsVolume ∈ BIG := big_mem (i := 4) (by decide +kernel) (by decide +kernel)
theorem W5 : Cond.selects yX8_columnVolumesAgree.cls yX8_columnVolumesAgree yX8_columnVolumesAgree ∈ BIG := big_mem (i := 5) (by decide +kernel) (by decide +kernel)
theorem W6 : Cond.selects yX8_sectionWithColumn.cls yX8_sectionWithColumn yX8_sectionWithColumn ∈ BIG := big_mem (i := 6) (by decide +kernel) (by decide +kernel)
theorem W7 : Cond.selects yX8_sectionRank.cls yX8_sectionRank yX8_sectionRank ∈ BIG := big_mem (i := 7) (by decide +kernel) (by decide +kernel)
theorem W8 : Cond.selects yX8_precedes.cls yX8_precedes yX8_precedes ∈ BIG := big_mem (i := 8) (by decide +kernel) (by decide +kernel)
theorem W9 : Cond.selects yX8_noteRank.cls yX8_noteRank yX8_noteRank ∈ BIG := big_mem (i := 9) (by decide +kernel) (by decide +kernel)
theorem W11 : Cond.selects yX9_notAdd.cls yX9_notAdd yX9_notAdd ∈ BIG := big_mem (i := 11) (by decide +kernel) (by decide +kernel)
theorem W12 : Cond.selects yX9_fails.cls yX9_fails yX9_fails ∈ BIG := big_mem (i := 12) (by decide +kernel) (by decide +kernel)
theorem W13 : Cond.selects yX9_remembers.cls yX9_remembers yX9_remembers ∈ BIG := big_mem (i := 13) (by decide +kernel) (by decide +kernel)
theorem W14 : Cond.selects yX9_copies.cls yX9_copies yX9_copies ∈ BIG := big_mem (i := 14) (by decide +kernel) (by decide +kernel)
theorem W15 : Cond.selects yX9_keeps.cls yX9_keeps yX9_keeps ∈ BIG := big_mem (i := 15) (by decide +kernel) (by decide +kernel)
theorem W16 : Cond.selects yX9_addsSection.cls yX9_addsSection yX9_addsSection ∈ BIG := big_mem (i := 16) (by decide +kernel) (by decide +kernel)
theorem W17 : Cond.selects yX9_puts.cls yX9_puts yX9_puts ∈ BIG := big_mem (i := 17) (by decide +kernel) (by decide +kernel)
theorem W18 : Cond.selects yX9_isSection.cls yX9_isSection yX9_isSection ∈ BIG := big_mem (i := 18) (by decide +kernel) (by decide +kernel)
theorem W19 : Cond.selects yX9_removesSection.cls yX9_removesSection yX9_removesSection ∈ BIG := big_mem (i := 19) (by decide +kernel) (by decide +kernel)
theorem W20 : Cond.selects yX9_notNote.cls yX9_notNote yX9_notNote ∈ BIG := big_mem (i := 20) (by decide +kernel) (by decide +kernel)
theorem W21 : Cond.selects yX9_isCell.cls yX9_isCell yX9_isCell ∈ BIG := big_mem (i := 21) (by decide +kernel) (by decide +kernel)
theorem W22 : Cond.selects yX9_of.cls yX9_of yX9_of ∈ BIG := big_mem (i := 22) (by decide +kernel) (by decide +kernel)
theorem W23 : Cond.selects yX9_setsNote.cls yX9_setsNote yX9_setsNote ∈ BIG := big_mem (i := 23) (by decide +kernel) (by decide +kernel)
theorem W24 : Cond.selects yX9_noteAt.cls yX9_noteAt yX9_noteAt ∈ BIG := big_mem (i := 24) (by decide +kernel) (by decide +kernel)
theorem W25 : Cond.selects yX9_putsNote.cls yX9_putsNote yX9_putsNote ∈ BIG := big_mem (i := 25) (by decide +kernel) (by decide +kernel)
theorem W26 : Cond.selects yX9_notMask.cls yX9_notMask yX9_notMask ∈ BIG := big_mem (i := 26) (by decide +kernel) (by decide +kernel)
theorem W27 : Cond.selects yX9_setsMasked.cls yX9_setsMasked yX9_setsMasked ∈ BIG := big_mem (i := 27) (by decide +kernel) (by decide +kernel)
theorem W28 : Cond.selects yX9_isMaskedAt.cls yX9_isMaskedAt yX9_isMaskedAt ∈ BIG := big_mem (i := 28) (by decide +kernel) (by decide +kernel)
theorem W29 : Cond.selects yX9_transposes.cls yX9_transposes yX9_transposes ∈ BIG := big_mem (i := 29) (by decide +kernel) (by decide +kernel)
theorem W30 : Cond.selects yX9_reverses.cls yX9_reverses yX9_reverses ∈ BIG := big_mem (i := 30) (by decide +kernel) (by decide +kernel)
theorem W31 : Cond.selects yX9_notRaise.cls yX9_notRaise yX9_notRaise ∈ BIG := big_mem (i := 31) (by decide +kernel) (by decide +kernel)
theorem W32 : Cond.selects yX9_raises.cls yX9_raises yX9_raises ∈ BIG := big_mem (i := 32) (by decide +kernel) (by decide +kernel)
theorem W33 : Cond.selects yX9_sets.cls yX9_sets yX9_sets ∈ BIG := big_mem (i := 33) (by decide +kernel) (by decide +kernel)
theorem W34 : Cond.selects yX9_beatsTimes.cls yX9_beatsTimes yX9_beatsTimes ∈ BIG := big_mem (i := 34) (by decide +kernel) (by decide +kernel)
theorem W35 : Cond.selects yX9_beats.cls yX9_beats yX9_beats ∈ BIG := big_mem (i := 35) (by decide +kernel) (by decide +kernel)
theorem W36 : Cond.selects yX9_volumeNow.cls yX9_volumeNow yX9_volumeNow ∈ BIG := big_mem (i := 36) (by decide +kernel) (by decide +kernel)
theorem W37 : Cond.selects yX9_plays.cls yX9_plays yX9_plays ∈ BIG := big_mem (i := 37) (by decide +kernel) (by decide +kernel)
theorem W38 : Cond.selects yX9_columnNow.cls yX9_columnNow yX9_columnNow ∈ BIG := big_mem (i := 38) (by decide +kernel) (by decide +kernel)
theorem W39 : Cond.selects yX9_volumeOfColumn.cls yX9_volumeOfColumn yX9_volumeOfColumn ∈ BIG := big_mem (i := 39) (by decide +kernel) (by decide +kernel)
theorem W40 : Cond.selects yX9_sounds.cls yX9_sounds yX9_sounds ∈ BIG := big_mem (i := 40) (by decide +kernel) (by decide +kernel)
theorem W41 : Cond.selects yX9_tires.cls yX9_tires yX9_tires ∈ BIG := big_mem (i := 41) (by decide +kernel) (by decide +kernel)
theorem W42 : Cond.selects yX9_logs.cls yX9_logs yX9_logs ∈ BIG := big_mem (i := 42) (by decide +kernel) (by decide +kernel)
theorem W43 : Cond.selects yX9_asks.cls yX9_asks yX9_asks ∈ BIG := big_mem (i := 43) (by decide +kernel) (by decide +kernel)
theorem W44 : Cond.selects yX9_asksSection.cls yX9_asksSection yX9_asksSection ∈ BIG := big_mem (i := 44) (by decide +kernel) (by decide +kernel)
theorem W45 : Cond.selects yX9_isPeriod.cls yX9_isPeriod yX9_isPeriod ∈ BIG := big_mem (i := 45) (by decide +kernel) (by decide +kernel)
theorem W46 : Cond.selects yX9_looksAhead.cls yX9_looksAhead yX9_looksAhead ∈ BIG := big_mem (i := 46) (by decide +kernel) (by decide +kernel)
theorem W47 : Cond.selects yX9_looksBack.cls yX9_looksBack yX9_looksBack ∈ BIG := big_mem (i := 47) (by decide +kernel) (by decide +kernel)
theorem W48 : Cond.selects yX9_volumeBySounds.cls yX9_volumeBySounds yX9_volumeBySounds ∈ BIG := big_mem (i := 48) (by decide +kernel) (by decide +kernel)
theorem W49 : Cond.selects yX9_soundsOf.cls yX9_soundsOf yX9_soundsOf ∈ BIG := big_mem (i := 49) (by decide +kernel) (by decide +kernel)
theorem W50 : Cond.selects yX9_isAhead.cls yX9_isAhead yX9_isAhead ∈ BIG := big_mem (i := 50) (by decide +kernel) (by decide +kernel)
theorem W51 : Cond.selects yX9_soundsAll.cls yX9_soundsAll yX9_soundsAll ∈ BIG := big_mem (i := 51) (by decide +kernel) (by decide +kernel)
theorem W52 : Cond.selects yX9_writes.cls yX9_writes yX9_writes ∈ BIG := big_mem (i := 52) (by decide +kernel) (by decide +kernel)
theorem W53 : Cond.selects yX9_readsAll.cls yX9_readsAll yX9_readsAll ∈ BIG := big_mem (i := 53) (by decide +kernel) (by decide +kernel)
theorem W54 : Cond.selects yX9_readsCommand.cls yX9_readsCommand yX9_readsCommand ∈ BIG := big_mem (i := 54) (by decide +kernel) (by decide +kernel)
theorem W55 : Cond.selects yX9_nextChar.cls yX9_nextChar yX9_nextChar ∈ BIG := big_mem (i := 55) (by decide +kernel) (by decide +kernel)
theorem W56 : Cond.selects yX9_reads.cls yX9_reads yX9_reads ∈ BIG := big_mem (i := 56) (by decide +kernel) (by decide +kernel)
theorem W57 : Cond.selects yX9_readsAdd.cls yX9_readsAdd yX9_readsAdd ∈ BIG := big_mem (i := 57) (by decide +kernel) (by decide +kernel)
theorem W58 : Cond.selects yX9_readsDigit.cls yX9_readsDigit yX9_readsDigit ∈ BIG := big_mem (i := 58) (by decide +kernel) (by decide +kernel)
theorem W59 : Cond.selects yX9_readsNote.cls yX9_readsNote yX9_readsNote ∈ BIG := big_mem (i := 59) (by decide +kernel) (by decide +kernel)
theorem W60 : Cond.selects yX9_readsMask.cls yX9_readsMask yX9_readsMask ∈ BIG := big_mem (i := 60) (by decide +kernel) (by decide +kernel)
theorem W61 : Cond.selects yX9_readsSign.cls yX9_readsSign yX9_readsSign ∈ BIG := big_mem (i := 61) (by decide +kernel) (by decide +kernel)
theorem W62 : Cond.selects yX9_readsT.cls yX9_readsT yX9_readsT ∈ BIG := big_mem (i := 62) (by decide +kernel) (by decide +kernel)
theorem W63 : Cond.selects yX9_readsRaise.cls yX9_readsRaise yX9_readsRaise ∈ BIG := big_mem (i := 63) (by decide +kernel) (by decide +kernel)
theorem W64 : Cond.selects yX9_readsNumber.cls yX9_readsNumber yX9_readsNumber ∈ BIG := big_mem (i := 64) (by decide +kernel) (by decide +kernel)
theorem W65 : Cond.selects yX9_readsBeat.cls yX9_readsBeat yX9_readsBeat ∈ BIG := big_mem (i := 65) (by decide +kernel) (by decide +kernel)
theorem W66 : Cond.selects yX9_doesAll.cls yX9_doesAll yX9_doesAll ∈ BIG := big_mem (i := 66) (by decide +kernel) (by decide +kernel)
theorem W67 : Cond.selects yX9_notNow.cls yX9_notNow yX9_notNow ∈ BIG := big_mem (i := 67) (by decide +kernel) (by decide +kernel)
theorem W68 : Cond.selects yX9_notSection.cls yX9_notSection yX9_notSection ∈ BIG := big_mem (i := 68) (by decide +kernel) (by decide +kernel)
theorem W69 : Cond.selects yX9_doesNow.cls yX9_doesNow yX9_doesNow ∈ BIG := big_mem (i := 69) (by decide +kernel) (by decide +kernel)
theorem W70 : Cond.selects yX9_goesBack.cls yX9_goesBack yX9_goesBack ∈ BIG := big_mem (i := 70) (by decide +kernel) (by decide +kernel)
theorem W72 : Cond.initialized RX8 ∈ BIG := big_mem (i := 72) (by decide +kernel) (by decide +kernel)
theorem W73 : Cond.initialized RX5 ∈ BIG := big_mem (i := 73) (by decide +kernel) (by decide +kernel)
theorem W74 : Cond.initialized RX4 ∈ BIG := big_mem (i := 74) (by decide +kernel) (by decide +kernel)
theorem W75 : Cond.initialized RX2 ∈ BIG := big_mem (i := 75) (by decide +kernel) (by decide +kernel)
theorem W76 : Cond.initialized RX3 ∈ BIG := big_mem (i := 76) (by decide +kernel) (by decide +kernel)
theorem W77 : Cond.initialized RX6 ∈ BIG := big_mem (i := 77) (by decide +kernel) (by decide +kernel)
theorem W78 : Cond.initialized RX1 ∈ BIG := big_mem (i := 78) (by decide +kernel) (by decide +kernel)
theorem W81 : Cond.initialized RX9 ∈ BIG := big_mem (i := 81) (by decide +kernel) (by decide +kernel)
theorem W82 : Cond.initialized RJ10 ∈ BIG := big_mem (i := 82) (by decide +kernel) (by decide +kernel)
theorem W86 : Cond.initialized "java/lang/IndexOutOfBoundsException" ∈ BIG := big_mem (i := 86) (by decide +kernel) (by decide +kernel)
theorem W87 : Cond.initialized "java/lang/IllegalArgumentException" ∈ BIG := big_mem (i := 87) (by decide +kernel) (by decide +kernel)
theorem W88 : Cond.initialized "java/lang/IllegalStateException" ∈ BIG := big_mem (i := 88) (by decide +kernel) (by decide +kernel)
theorem W89 : Cond.initialized "java/lang/UnsupportedOperationException" ∈ BIG := big_mem (i := 89) (by decide +kernel) (by decide +kernel)
theorem W90 : Cond.initialized RJ9 ∈ BIG := big_mem (i := 90) (by decide +kernel) (by decide +kernel)
theorem W93 : Cond.initialized "java/util/NoSuchElementException" ∈ BIG := big_mem (i := 93) (by decide +kernel) (by decide +kernel)
theorem W94 : Cond.initialized "java/lang/ArithmeticException" ∈ BIG := big_mem (i := 94) (by decide +kernel) (by decide +kernel)
theorem W120 : Cond.fieldLink RX4 9 (TX4 0).1 (TX4 0).2.1 (TX4 0).2.2.1 ∈ BIG := big_mem (i := 120) (by decide +kernel) (by decide +kernel)
theorem W121 : Cond.fieldLink RX5 142 (TX4 0).1 (TX4 0).2.1 (TX4 0).2.2.1 ∈ BIG := big_mem (i := 121) (by decide +kernel) (by decide +kernel)
theorem W122 : Cond.fieldLink RX8 123 (TX4 0).1 (TX4 0).2.1 (TX4 0).2.2.1 ∈ BIG := big_mem (i := 122) (by decide +kernel) (by decide +kernel)
theorem W123 : Cond.fieldLink RX4 15 (TX4 1).1 (TX4 1).2.1 (TX4 1).2.2.1 ∈ BIG := big_mem (i := 123) (by decide +kernel) (by decide +kernel)
theorem W124 : Cond.fieldLink RX8 127 (TX4 1).1 (TX4 1).2.1 (TX4 1).2.2.1 ∈ BIG := big_mem (i := 124) (by decide +kernel) (by decide +kernel)
theorem W125 : Cond.fieldLink RX4 19 (TX4 2).1 (TX4 2).2.1 (TX4 2).2.2.1 ∈ BIG := big_mem (i := 125) (by decide +kernel) (by decide +kernel)
theorem W126 : Cond.fieldLink RX5 98 (TX4 2).1 (TX4 2).2.1 (TX4 2).2.2.1 ∈ BIG := big_mem (i := 126) (by decide +kernel) (by decide +kernel)
theorem W127 : Cond.fieldLink RX8 130 (TX4 2).1 (TX4 2).2.1 (TX4 2).2.2.1 ∈ BIG := big_mem (i := 127) (by decide +kernel) (by decide +kernel)
theorem W128 : Cond.fieldLink RX4 22 (TX4 3).1 (TX4 3).2.1 (TX4 3).2.2.1 ∈ BIG := big_mem (i := 128) (by decide +kernel) (by decide +kernel)
theorem W129 : Cond.fieldLink RX5 146 (TX4 3).1 (TX4 3).2.1 (TX4 3).2.2.1 ∈ BIG := big_mem (i := 129) (by decide +kernel) (by decide +kernel)
theorem W130 : Cond.fieldLink RX4 26 (TX4 4).1 (TX4 4).2.1 (TX4 4).2.2.1 ∈ BIG := big_mem (i := 130) (by decide +kernel) (by decide +kernel)
theorem W131 : Cond.fieldLink RX4 29 (TX4 5).1 (TX4 5).2.1 (TX4 5).2.2.1 ∈ BIG := big_mem (i := 131) (by decide +kernel) (by decide +kernel)
theorem W132 : Cond.fieldLink RX8 158 (TX4 5).1 (TX4 5).2.1 (TX4 5).2.2.1 ∈ BIG := big_mem (i := 132) (by decide +kernel) (by decide +kernel)
theorem W133 : Cond.fieldLink RX4 32 (TX4 6).1 (TX4 6).2.1 (TX4 6).2.2.1 ∈ BIG := big_mem (i := 133) (by decide +kernel) (by decide +kernel)
theorem W134 : Cond.fieldLink RX5 126 (TX4 6).1 (TX4 6).2.1 (TX4 6).2.2.1 ∈ BIG := big_mem (i := 134) (by decide +kernel) (by decide +kernel)
theorem W135 : Cond.fieldLink RX8 161 (TX4 6).1 (TX4 6).2.1 (TX4 6).2.2.1 ∈ BIG := big_mem (i := 135) (by decide +kernel) (by decide +kernel)
theorem W136 : Cond.fieldLink RX4 35 (TX4 7).1 (TX4 7).2.1 (TX4 7).2.2.1 ∈ BIG := big_mem (i := 136) (by decide +kernel) (by decide +kernel)
theorem W137 : Cond.fieldLink RX5 139 (TX4 7).1 (TX4 7).2.1 (TX4 7).2.2.1 ∈ BIG := big_mem (i := 137) (by decide +kernel) (by decide +kernel)
theorem W138 : Cond.fieldLink RX8 224 (TX4 7).1 (TX4 7).2.1 (TX4 7).2.2.1 ∈ BIG := big_mem (i := 138) (by decide +kernel) (by decide +kernel)
theorem W157 : Cond.fieldLink RX5 11 (TX5 0).1 (TX5 0).2.1 (TX5 0).2.2.1 ∈ BIG := big_mem (i := 157) (by decide +kernel) (by decide +kernel)
theorem W158 : Cond.fieldLink RX8 372 (TX5 0).1 (TX5 0).2.1 (TX5 0).2.2.1 ∈ BIG := big_mem (i := 158) (by decide +kernel) (by decide +kernel)
theorem W159 : Cond.fieldLink RX5 17 (TX5 1).1 (TX5 1).2.1 (TX5 1).2.2.1 ∈ BIG := big_mem (i := 159) (by decide +kernel) (by decide +kernel)
theorem W160 : Cond.fieldLink RX8 113 (TX5 1).1 (TX5 1).2.1 (TX5 1).2.2.1 ∈ BIG := big_mem (i := 160) (by decide +kernel) (by decide +kernel)
theorem W161 : Cond.fieldLink RX5 21 (TX5 2).1 (TX5 2).2.1 (TX5 2).2.2.1 ∈ BIG := big_mem (i := 161) (by decide +kernel) (by decide +kernel)
theorem W162 : Cond.fieldLink RX8 100 (TX5 2).1 (TX5 2).2.1 (TX5 2).2.2.1 ∈ BIG := big_mem (i := 162) (by decide +kernel) (by decide +kernel)
theorem W163 : Cond.fieldLink RX5 24 (TX5 3).1 (TX5 3).2.1 (TX5 3).2.2.1 ∈ BIG := big_mem (i := 163) (by decide +kernel) (by decide +kernel)
theorem W164 : Cond.fieldLink RX8 116 (TX5 3).1 (TX5 3).2.1 (TX5 3).2.2.1 ∈ BIG := big_mem (i := 164) (by decide +kernel) (by decide +kernel)
theorem W165 : Cond.fieldLink RX5 27 (TX5 4).1 (TX5 4).2.1 (TX5 4).2.2.1 ∈ BIG := big_mem (i := 165) (by decide +kernel) (by decide +kernel)
theorem W166 : Cond.fieldLink RX8 110 (TX5 4).1 (TX5 4).2.1 (TX5 4).2.2.1 ∈ BIG := big_mem (i := 166) (by decide +kernel) (by decide +kernel)
theorem W167 : Cond.fieldLink RX5 30 (TX5 5).1 (TX5 5).2.1 (TX5 5).2.2.1 ∈ BIG := big_mem (i := 167) (by decide +kernel) (by decide +kernel)
theorem W168 : Cond.fieldLink RX8 221 (TX5 5).1 (TX5 5).2.1 (TX5 5).2.2.1 ∈ BIG := big_mem (i := 168) (by decide +kernel) (by decide +kernel)
theorem W169 : Cond.fieldLink RX5 33 (TX5 6).1 (TX5 6).2.1 (TX5 6).2.2.1 ∈ BIG := big_mem (i := 169) (by decide +kernel) (by decide +kernel)
theorem W170 : Cond.fieldLink RX8 240 (TX5 6).1 (TX5 6).2.1 (TX5 6).2.2.1 ∈ BIG := big_mem (i := 170) (by decide +kernel) (by decide +kernel)
theorem W171 : Cond.fieldLink RX5 36 (TX5 7).1 (TX5 7).2.1 (TX5 7).2.2.1 ∈ BIG := big_mem (i := 171) (by decide +kernel) (by decide +kernel)
theorem W172 : Cond.fieldLink RX8 227 (TX5 7).1 (TX5 7).2.1 (TX5 7).2.2.1 ∈ BIG := big_mem (i := 172) (by decide +kernel) (by decide +kernel)
theorem W173 : Cond.fieldLink RX5 40 (TX5 8).1 (TX5 8).2.1 (TX5 8).2.2.1 ∈ BIG := big_mem (i := 173) (by decide +kernel) (by decide +kernel)
theorem W174 : Cond.fieldLink RX5 44 (TX5 9).1 (TX5 9).2.1 (TX5 9).2.2.1 ∈ BIG := big_mem (i := 174) (by decide +kernel) (by decide +kernel)
theorem W205 : Cond.fieldLink RX2 11 (TX2 0).1 (TX2 0).2.1 (TX2 0).2.2.1 ∈ BIG := big_mem (i := 205) (by decide +kernel) (by decide +kernel)
theorem W206 : Cond.fieldLink RX2 17 (TX2 1).1 (TX2 1).2.1 (TX2 1).2.2.1 ∈ BIG := big_mem (i := 206) (by decide +kernel) (by decide +kernel)
theorem W207 : Cond.fieldLink RX2 21 (TX2 2).1 (TX2 2).2.1 (TX2 2).2.2.1 ∈ BIG := big_mem (i := 207) (by decide +kernel) (by decide +kernel)
theorem W208 : Cond.fieldLink RX8 345 (TX2 2).1 (TX2 2).2.1 (TX2 2).2.2.1 ∈ BIG := big_mem (i := 208) (by decide +kernel) (by decide +kernel)
theorem W230 : Cond.fieldLink RX6 9 (TX6 0).1 (TX6 0).2.1 (TX6 0).2.2.1 ∈ BIG := big_mem (i := 230) (by decide +kernel) (by decide +kernel)
theorem W231 : Cond.fieldLink RX6 15 (TX6 1).1 (TX6 1).2.1 (TX6 1).2.2.1 ∈ BIG := big_mem (i := 231) (by decide +kernel) (by decide +kernel)
theorem W233 : Cond.fieldLink RX8 292 (TX6 1).1 (TX6 1).2.1 (TX6 1).2.2.1 ∈ BIG := big_mem (i := 233) (by decide +kernel) (by decide +kernel)
theorem W249 : Cond.fieldLink RX1 13 (TX1 0).1 (TX1 0).2.1 (TX1 0).2.2.1 ∈ BIG := big_mem (i := 249) (by decide +kernel) (by decide +kernel)
theorem W251 : Cond.fieldLink RX1 18 (TX1 1).1 (TX1 1).2.1 (TX1 1).2.2.1 ∈ BIG := big_mem (i := 251) (by decide +kernel) (by decide +kernel)
theorem W252 : Cond.fieldLink RX1 22 (TX1 2).1 (TX1 2).2.1 (TX1 2).2.2.1 ∈ BIG := big_mem (i := 252) (by decide +kernel) (by decide +kernel)
theorem W260 : Cond.fieldLink RX3 12 (TX3 0).1 (TX3 0).2.1 (TX3 0).2.2.1 ∈ BIG := big_mem (i := 260) (by decide +kernel) (by decide +kernel)
theorem W261 : Cond.fieldLink RX8 305 (TX3 0).1 (TX3 0).2.1 (TX3 0).2.2.1 ∈ BIG := big_mem (i := 261) (by decide +kernel) (by decide +kernel)
theorem W266 : Cond.fieldLink RX3 28 (TX3 3).1 (TX3 3).2.1 (TX3 3).2.2.1 ∈ BIG := big_mem (i := 266) (by decide +kernel) (by decide +kernel)
theorem W279 : Cond.fieldLink RX8 12 (TX8 0).1 (TX8 0).2.1 (TX8 0).2.2.1 ∈ BIG := big_mem (i := 279) (by decide +kernel) (by decide +kernel)
theorem W280 : Cond.fieldLink RX8 16 (TX8 1).1 (TX8 1).2.1 (TX8 1).2.2.1 ∈ BIG := big_mem (i := 280) (by decide +kernel) (by decide +kernel)
theorem W281 : Cond.fieldLink RX8 19 (TX8 2).1 (TX8 2).2.1 (TX8 2).2.2.1 ∈ BIG := big_mem (i := 281) (by decide +kernel) (by decide +kernel)
theorem W282 : Cond.fieldLink RX8 22 (TX8 3).1 (TX8 3).2.1 (TX8 3).2.2.1 ∈ BIG := big_mem (i := 282) (by decide +kernel) (by decide +kernel)
theorem W283 : Cond.fieldLink RX8 29 (TX8 4).1 (TX8 4).2.1 (TX8 4).2.2.1 ∈ BIG := big_mem (i := 283) (by decide +kernel) (by decide +kernel)
theorem W284 : Cond.fieldLink RX8 36 (TX8 5).1 (TX8 5).2.1 (TX8 5).2.2.1 ∈ BIG := big_mem (i := 284) (by decide +kernel) (by decide +kernel)
theorem W285 : Cond.fieldLink RX8 43 (TX8 6).1 (TX8 6).2.1 (TX8 6).2.2.1 ∈ BIG := big_mem (i := 285) (by decide +kernel) (by decide +kernel)
theorem W286 : Cond.fieldLink RX8 50 (TX8 7).1 (TX8 7).2.1 (TX8 7).2.2.1 ∈ BIG := big_mem (i := 286) (by decide +kernel) (by decide +kernel)
theorem W287 : Cond.fieldLink RX8 54 (TX8 8).1 (TX8 8).2.1 (TX8 8).2.2.1 ∈ BIG := big_mem (i := 287) (by decide +kernel) (by decide +kernel)
theorem W288 : Cond.fieldLink RX8 58 (TX8 9).1 (TX8 9).2.1 (TX8 9).2.2.1 ∈ BIG := big_mem (i := 288) (by decide +kernel) (by decide +kernel)
theorem W311 : Cond.instanceMethod yX8_conductWave ∈ BIG := big_mem (i := 311) (by decide +kernel) (by decide +kernel)
theorem W312 : Cond.selects yX8_conductWave.cls yX8_conductWave yX8_conductWave ∈ BIG := big_mem (i := 312) (by decide +kernel) (by decide +kernel)
theorem W313 : Cond.code yX8_conductWave cX8_conductWave 1 (some .int) ∈ BIG := big_mem (i := 313) (by decide +kernel) (by decide +kernel)
theorem W314 : Cond.methodLink RX8 61 yX2_prepare ∈ BIG := big_mem (i := 314) (by decide +kernel) (by decide +kernel)
theorem W315 : Cond.instanceMethod yX2_prepare ∈ BIG := big_mem (i := 315) (by decide +kernel) (by decide +kernel)
theorem W316 : Cond.selects yX2_prepare.cls yX2_prepare yX2_prepare ∈ BIG := big_mem (i := 316) (by decide +kernel) (by decide +kernel)
theorem W317 : Cond.code yX2_prepare cX2_prepare 2 none ∈ BIG := big_mem (i := 317) (by decide +kernel) (by decide +kernel)
theorem W318 : Cond.methodLink RX2 25 yX5_copyFrom ∈ BIG := big_mem (i := 318) (by decide +kernel) (by decide +kernel)
theorem W319 : Cond.instanceMethod yX5_copyFrom ∈ BIG := big_mem (i := 319) (by decide +kernel) (by decide +kernel)
theorem W320 : Cond.selects yX5_copyFrom.cls yX5_copyFrom yX5_copyFrom ∈ BIG := big_mem (i := 320) (by decide +kernel) (by decide +kernel)
theorem W321 : Cond.code yX5_copyFrom cX5_copyFrom 3 none ∈ BIG := big_mem (i := 321) (by decide +kernel) (by decide +kernel)
theorem W322 : Cond.methodLink RX5 48 yX4_copyFrom ∈ BIG := big_mem (i := 322) (by decide +kernel) (by decide +kernel)
theorem W323 : Cond.instanceMethod yX4_copyFrom ∈ BIG := big_mem (i := 323) (by decide +kernel) (by decide +kernel)
theorem W324 : Cond.selects yX4_copyFrom.cls yX4_copyFrom yX4_copyFrom ∈ BIG := big_mem (i := 324) (by decide +kernel) (by decide +kernel)
theorem W325 : Cond.code yX4_copyFrom cX4_copyFrom 2 none ∈ BIG := big_mem (i := 325) (by decide +kernel) (by decide +kernel)
theorem W326 : Cond.methodLink RX4 38 arraycopyName ∈ BIG := big_mem (i := 326) (by decide +kernel) (by decide +kernel)
theorem W327 : Cond.static arraycopyName ∈ BIG := big_mem (i := 327) (by decide +kernel) (by decide +kernel)
theorem W328 : Cond.native arraycopyName ∈ BIG := big_mem (i := 328) (by decide +kernel) (by decide +kernel)
theorem W329 : Cond.methodLink RX5 52 arraycopyName ∈ BIG := big_mem (i := 329) (by decide +kernel) (by decide +kernel)
theorem W330 : Cond.methodLink RX8 103 yX5_play ∈ BIG := big_mem (i := 330) (by decide +kernel) (by decide +kernel)
theorem W331 : Cond.instanceMethod yX5_play ∈ BIG := big_mem (i := 331) (by decide +kernel) (by decide +kernel)
theorem W332 : Cond.selects yX5_play.cls yX5_play yX5_play ∈ BIG := big_mem (i := 332) (by decide +kernel) (by decide +kernel)
theorem W333 : Cond.code yX5_play cX5_play 4 (some .int) ∈ BIG := big_mem (i := 333) (by decide +kernel) (by decide +kernel)
theorem W334 : Cond.methodLink RX5 112 yX5_playBeat ∈ BIG := big_mem (i := 334) (by decide +kernel) (by decide +kernel)
theorem W335 : Cond.instanceMethod yX5_playBeat ∈ BIG := big_mem (i := 335) (by decide +kernel) (by decide +kernel)
theorem W336 : Cond.selects yX5_playBeat.cls yX5_playBeat yX5_playBeat ∈ BIG := big_mem (i := 336) (by decide +kernel) (by decide +kernel)
theorem W337 : Cond.code yX5_playBeat cX5_playBeat 6 (some .int) ∈ BIG := big_mem (i := 337) (by decide +kernel) (by decide +kernel)
theorem W338 : Cond.methodLink RX5 115 yX5_playSection ∈ BIG := big_mem (i := 338) (by decide +kernel) (by decide +kernel)
theorem W339 : Cond.instanceMethod yX5_playSection ∈ BIG := big_mem (i := 339) (by decide +kernel) (by decide +kernel)
theorem W340 : Cond.selects yX5_playSection.cls yX5_playSection yX5_playSection ∈ BIG := big_mem (i := 340) (by decide +kernel) (by decide +kernel)
theorem W341 : Cond.code yX5_playSection cX5_playSection 4 (some .int) ∈ BIG := big_mem (i := 341) (by decide +kernel) (by decide +kernel)
theorem W342 : Cond.methodLink RX5 129 yX4_columnIn ∈ BIG := big_mem (i := 342) (by decide +kernel) (by decide +kernel)
theorem W343 : Cond.instanceMethod yX4_columnIn ∈ BIG := big_mem (i := 343) (by decide +kernel) (by decide +kernel)
theorem W344 : Cond.selects yX4_columnIn.cls yX4_columnIn yX4_columnIn ∈ BIG := big_mem (i := 344) (by decide +kernel) (by decide +kernel)
theorem W345 : Cond.code yX4_columnIn cX4_columnIn 2 (some .int) ∈ BIG := big_mem (i := 345) (by decide +kernel) (by decide +kernel)
theorem W346 : Cond.methodLink RX5 88 yX4_masks ∈ BIG := big_mem (i := 346) (by decide +kernel) (by decide +kernel)
theorem W347 : Cond.instanceMethod yX4_masks ∈ BIG := big_mem (i := 347) (by decide +kernel) (by decide +kernel)
theorem W348 : Cond.selects yX4_masks.cls yX4_masks yX4_masks ∈ BIG := big_mem (i := 348) (by decide +kernel) (by decide +kernel)
theorem W349 : Cond.code yX4_masks cX4_masks 2 (some .boolean) ∈ BIG := big_mem (i := 349) (by decide +kernel) (by decide +kernel)
theorem W350 : Cond.methodLink RX5 132 yX5_recordSounds ∈ BIG := big_mem (i := 350) (by decide +kernel) (by decide +kernel)
theorem W351 : Cond.instanceMethod yX5_recordSounds ∈ BIG := big_mem (i := 351) (by decide +kernel) (by decide +kernel)
theorem W352 : Cond.selects yX5_recordSounds.cls yX5_recordSounds yX5_recordSounds ∈ BIG := big_mem (i := 352) (by decide +kernel) (by decide +kernel)
theorem W353 : Cond.code yX5_recordSounds cX5_recordSounds 6 none ∈ BIG := big_mem (i := 353) (by decide +kernel) (by decide +kernel)
theorem W355 : Cond.static yX8_kindIndex ∈ BIG := big_mem (i := 355) (by decide +kernel) (by decide +kernel)
theorem W356 : Cond.code yX8_kindIndex cX8_kindIndex 1 (some .int) ∈ BIG := big_mem (i := 356) (by decide +kernel) (by decide +kernel)
theorem W357 : Cond.methodLink RX5 136 yX4_volumeOfColumn ∈ BIG := big_mem (i := 357) (by decide +kernel) (by decide +kernel)
theorem W358 : Cond.instanceMethod yX4_volumeOfColumn ∈ BIG := big_mem (i := 358) (by decide +kernel) (by decide +kernel)
theorem W359 : Cond.selects yX4_volumeOfColumn.cls yX4_volumeOfColumn yX4_volumeOfColumn ∈ BIG := big_mem (i := 359) (by decide +kernel) (by decide +kernel)
theorem W360 : Cond.code yX4_volumeOfColumn cX4_volumeOfColumn 4 (some .int) ∈ BIG := big_mem (i := 360) (by decide +kernel) (by decide +kernel)
theorem W362 : Cond.static yX8_volumeOf ∈ BIG := big_mem (i := 362) (by decide +kernel) (by decide +kernel)
theorem W363 : Cond.code yX8_volumeOf cX8_volumeOf 2 (some .int) ∈ BIG := big_mem (i := 363) (by decide +kernel) (by decide +kernel)
theorem W364 : Cond.methodLink RX5 119 yX4_tire ∈ BIG := big_mem (i := 364) (by decide +kernel) (by decide +kernel)
theorem W365 : Cond.instanceMethod yX4_tire ∈ BIG := big_mem (i := 365) (by decide +kernel) (by decide +kernel)
theorem W366 : Cond.selects yX4_tire.cls yX4_tire yX4_tire ∈ BIG := big_mem (i := 366) (by decide +kernel) (by decide +kernel)
theorem W367 : Cond.code yX4_tire cX4_tire 1 none ∈ BIG := big_mem (i := 367) (by decide +kernel) (by decide +kernel)
theorem W368 : Cond.methodLink RX5 122 yX5_logTotal ∈ BIG := big_mem (i := 368) (by decide +kernel) (by decide +kernel)
theorem W369 : Cond.instanceMethod yX5_logTotal ∈ BIG := big_mem (i := 369) (by decide +kernel) (by decide +kernel)
theorem W370 : Cond.selects yX5_logTotal.cls yX5_logTotal yX5_logTotal ∈ BIG := big_mem (i := 370) (by decide +kernel) (by decide +kernel)
theorem W371 : Cond.code yX5_logTotal cX5_logTotal 3 none ∈ BIG := big_mem (i := 371) (by decide +kernel) (by decide +kernel)
theorem W372 : Cond.methodLink RX5 149 yJ9_max_7cf53 ∈ BIG := big_mem (i := 372) (by decide +kernel) (by decide +kernel)
theorem W373 : Cond.static yJ9_max_7cf53 ∈ BIG := big_mem (i := 373) (by decide +kernel) (by decide +kernel)
theorem W374 : Cond.code yJ9_max_7cf53 cJ9_max_7cf53 2 (some .int) ∈ BIG := big_mem (i := 374) (by decide +kernel) (by decide +kernel)
theorem W375 : Cond.methodLink RX8 69 yX8_settled ∈ BIG := big_mem (i := 375) (by decide +kernel) (by decide +kernel)
theorem W377 : Cond.instanceMethod yX8_settled ∈ BIG := big_mem (i := 377) (by decide +kernel) (by decide +kernel)
theorem W378 : Cond.code yX8_settled cX8_settled 2 (some .int) ∈ BIG := big_mem (i := 378) (by decide +kernel) (by decide +kernel)
theorem W379 : Cond.classLink RX8 137 "java/lang/IndexOutOfBoundsException" ∈ BIG := big_mem (i := 379) (by decide +kernel) (by decide +kernel)
theorem W451 : Cond.classLink RX8 150 "java/lang/IllegalArgumentException" ∈ BIG := big_mem (i := 451) (by decide +kernel) (by decide +kernel)
theorem W467 : Cond.classLink RX8 311 "java/lang/IllegalStateException" ∈ BIG := big_mem (i := 467) (by decide +kernel) (by decide +kernel)
theorem W483 : Cond.classLink RX8 362 "java/lang/UnsupportedOperationException" ∈ BIG := big_mem (i := 483) (by decide +kernel) (by decide +kernel)
theorem W499 : Cond.methodLink RX8 338 yX2_keep ∈ BIG := big_mem (i := 499) (by decide +kernel) (by decide +kernel)
theorem W500 : Cond.instanceMethod yX2_keep ∈ BIG := big_mem (i := 500) (by decide +kernel) (by decide +kernel)
theorem W501 : Cond.selects yX2_keep.cls yX2_keep yX2_keep ∈ BIG := big_mem (i := 501) (by decide +kernel) (by decide +kernel)
theorem W502 : Cond.code yX2_keep cX2_keep 1 none ∈ BIG := big_mem (i := 502) (by decide +kernel) (by decide +kernel)
theorem W503 : Cond.methodLink RX2 29 yJ9_min_7cf53 ∈ BIG := big_mem (i := 503) (by decide +kernel) (by decide +kernel)
theorem W504 : Cond.static yJ9_min_7cf53 ∈ BIG := big_mem (i := 504) (by decide +kernel) (by decide +kernel)
theorem W505 : Cond.code yJ9_min_7cf53 cJ9_min_7cf53 2 (some .int) ∈ BIG := big_mem (i := 505) (by decide +kernel) (by decide +kernel)
theorem W507 : Cond.instanceMethod yX8_beatCount ∈ BIG := big_mem (i := 507) (by decide +kernel) (by decide +kernel)
theorem W508 : Cond.selects yX8_beatCount.cls yX8_beatCount yX8_beatCount ∈ BIG := big_mem (i := 508) (by decide +kernel) (by decide +kernel)
theorem W509 : Cond.code yX8_beatCount cX8_beatCount 1 (some .int) ∈ BIG := big_mem (i := 509) (by decide +kernel) (by decide +kernel)
theorem W511 : Cond.instanceMethod yX8_sectionCount ∈ BIG := big_mem (i := 511) (by decide +kernel) (by decide +kernel)
theorem W512 : Cond.selects yX8_sectionCount.cls yX8_sectionCount yX8_sectionCount ∈ BIG := big_mem (i := 512) (by decide +kernel) (by decide +kernel)
theorem W513 : Cond.code yX8_sectionCount cX8_sectionCount 1 (some .int) ∈ BIG := big_mem (i := 513) (by decide +kernel) (by decide +kernel)
theorem W515 : Cond.instanceMethod yX8_tempo ∈ BIG := big_mem (i := 515) (by decide +kernel) (by decide +kernel)
theorem W516 : Cond.selects yX8_tempo.cls yX8_tempo yX8_tempo ∈ BIG := big_mem (i := 516) (by decide +kernel) (by decide +kernel)
theorem W517 : Cond.code yX8_tempo cX8_tempo 1 (some .int) ∈ BIG := big_mem (i := 517) (by decide +kernel) (by decide +kernel)
theorem W519 : Cond.instanceMethod yX8_limit ∈ BIG := big_mem (i := 519) (by decide +kernel) (by decide +kernel)
theorem W520 : Cond.selects yX8_limit.cls yX8_limit yX8_limit ∈ BIG := big_mem (i := 520) (by decide +kernel) (by decide +kernel)
theorem W521 : Cond.code yX8_limit cX8_limit 1 (some .int) ∈ BIG := big_mem (i := 521) (by decide +kernel) (by decide +kernel)
theorem W523 : Cond.instanceMethod yX8_nextTotal ∈ BIG := big_mem (i := 523) (by decide +kernel) (by decide +kernel)
theorem W524 : Cond.selects yX8_nextTotal.cls yX8_nextTotal yX8_nextTotal ∈ BIG := big_mem (i := 524) (by decide +kernel) (by decide +kernel)
theorem W525 : Cond.code yX8_nextTotal cX8_nextTotal 3 (some .int) ∈ BIG := big_mem (i := 525) (by decide +kernel) (by decide +kernel)
theorem W526 : Cond.methodLink RX8 197 yX8_nextVolume ∈ BIG := big_mem (i := 526) (by decide +kernel) (by decide +kernel)
theorem W527 : Cond.instanceMethod yX8_nextVolume ∈ BIG := big_mem (i := 527) (by decide +kernel) (by decide +kernel)
theorem W528 : Cond.selects yX8_nextVolume.cls yX8_nextVolume yX8_nextVolume ∈ BIG := big_mem (i := 528) (by decide +kernel) (by decide +kernel)
theorem W529 : Cond.code yX8_nextVolume cX8_nextVolume 2 (some .int) ∈ BIG := big_mem (i := 529) (by decide +kernel) (by decide +kernel)
theorem W530 : Cond.methodLink RX8 119 yX8_presentSection ∈ BIG := big_mem (i := 530) (by decide +kernel) (by decide +kernel)
theorem W532 : Cond.instanceMethod yX8_presentSection ∈ BIG := big_mem (i := 532) (by decide +kernel) (by decide +kernel)
theorem W533 : Cond.code yX8_presentSection cX8_presentSection 2 (some (.object "ScoreOrchestra$Section")) ∈ BIG := big_mem (i := 533) (by decide +kernel) (by decide +kernel)
theorem W534 : Cond.methodLink RX8 367 yX5_hasSection ∈ BIG := big_mem (i := 534) (by decide +kernel) (by decide +kernel)
theorem W535 : Cond.instanceMethod yX5_hasSection ∈ BIG := big_mem (i := 535) (by decide +kernel) (by decide +kernel)
theorem W536 : Cond.selects yX5_hasSection.cls yX5_hasSection yX5_hasSection ∈ BIG := big_mem (i := 536) (by decide +kernel) (by decide +kernel)
theorem W537 : Cond.code yX5_hasSection cX5_hasSection 2 (some .boolean) ∈ BIG := big_mem (i := 537) (by decide +kernel) (by decide +kernel)
theorem W539 : Cond.methodLink RX8 194 yX4_volumeIn ∈ BIG := big_mem (i := 539) (by decide +kernel) (by decide +kernel)
theorem W540 : Cond.instanceMethod yX4_volumeIn ∈ BIG := big_mem (i := 540) (by decide +kernel) (by decide +kernel)
theorem W541 : Cond.selects yX4_volumeIn.cls yX4_volumeIn yX4_volumeIn ∈ BIG := big_mem (i := 541) (by decide +kernel) (by decide +kernel)
theorem W542 : Cond.code yX4_volumeIn cX4_volumeIn 3 (some .int) ∈ BIG := big_mem (i := 542) (by decide +kernel) (by decide +kernel)
theorem W543 : Cond.methodLink RX4 70 yX4_columnIn ∈ BIG := big_mem (i := 543) (by decide +kernel) (by decide +kernel)
theorem W544 : Cond.methodLink RX4 67 yX4_masks ∈ BIG := big_mem (i := 544) (by decide +kernel) (by decide +kernel)
theorem W545 : Cond.methodLink RX4 74 yX4_volumeOfColumn ∈ BIG := big_mem (i := 545) (by decide +kernel) (by decide +kernel)
theorem W547 : Cond.instanceMethod yX8_period ∈ BIG := big_mem (i := 547) (by decide +kernel) (by decide +kernel)
theorem W548 : Cond.selects yX8_period.cls yX8_period yX8_period ∈ BIG := big_mem (i := 548) (by decide +kernel) (by decide +kernel)
theorem W549 : Cond.code yX8_period cX8_period 3 (some .int) ∈ BIG := big_mem (i := 549) (by decide +kernel) (by decide +kernel)
theorem W550 : Cond.methodLink RX8 200 yX8_columns ∈ BIG := big_mem (i := 550) (by decide +kernel) (by decide +kernel)
theorem W551 : Cond.instanceMethod yX8_columns ∈ BIG := big_mem (i := 551) (by decide +kernel) (by decide +kernel)
theorem W552 : Cond.selects yX8_columns.cls yX8_columns yX8_columns ∈ BIG := big_mem (i := 552) (by decide +kernel) (by decide +kernel)
theorem W553 : Cond.code yX8_columns cX8_columns 2 (some .int) ∈ BIG := big_mem (i := 553) (by decide +kernel) (by decide +kernel)
theorem W554 : Cond.methodLink RX8 202 yX8_leastCommonMultiple ∈ BIG := big_mem (i := 554) (by decide +kernel) (by decide +kernel)
theorem W555 : Cond.static yX8_leastCommonMultiple ∈ BIG := big_mem (i := 555) (by decide +kernel) (by decide +kernel)
theorem W556 : Cond.code yX8_leastCommonMultiple cX8_leastCommonMultiple 3 (some .int) ∈ BIG := big_mem (i := 556) (by decide +kernel) (by decide +kernel)
theorem W557 : Cond.methodLink RX8 418 yX8_greatestCommonDivisor ∈ BIG := big_mem (i := 557) (by decide +kernel) (by decide +kernel)
theorem W558 : Cond.static yX8_greatestCommonDivisor ∈ BIG := big_mem (i := 558) (by decide +kernel) (by decide +kernel)
theorem W559 : Cond.code yX8_greatestCommonDivisor cX8_greatestCommonDivisor 6 (some .int) ∈ BIG := big_mem (i := 559) (by decide +kernel) (by decide +kernel)
theorem W561 : Cond.instanceMethod yX8_periodBySearch ∈ BIG := big_mem (i := 561) (by decide +kernel) (by decide +kernel)
theorem W562 : Cond.selects yX8_periodBySearch.cls yX8_periodBySearch yX8_periodBySearch ∈ BIG := big_mem (i := 562) (by decide +kernel) (by decide +kernel)
theorem W563 : Cond.code yX8_periodBySearch cX8_periodBySearch 2 (some .int) ∈ BIG := big_mem (i := 563) (by decide +kernel) (by decide +kernel)
theorem W564 : Cond.methodLink RX8 205 yX8_isPeriod ∈ BIG := big_mem (i := 564) (by decide +kernel) (by decide +kernel)
theorem W566 : Cond.instanceMethod yX8_isPeriod ∈ BIG := big_mem (i := 566) (by decide +kernel) (by decide +kernel)
theorem W567 : Cond.code yX8_isPeriod cX8_isPeriod 4 (some .boolean) ∈ BIG := big_mem (i := 567) (by decide +kernel) (by decide +kernel)
theorem W569 : Cond.instanceMethod yX8_breakCount ∈ BIG := big_mem (i := 569) (by decide +kernel) (by decide +kernel)
theorem W570 : Cond.selects yX8_breakCount.cls yX8_breakCount yX8_breakCount ∈ BIG := big_mem (i := 570) (by decide +kernel) (by decide +kernel)
theorem W571 : Cond.code yX8_breakCount cX8_breakCount 1 (some .int) ∈ BIG := big_mem (i := 571) (by decide +kernel) (by decide +kernel)
theorem W573 : Cond.instanceMethod yX8_totalVolume ∈ BIG := big_mem (i := 573) (by decide +kernel) (by decide +kernel)
theorem W574 : Cond.selects yX8_totalVolume.cls yX8_totalVolume yX8_totalVolume ∈ BIG := big_mem (i := 574) (by decide +kernel) (by decide +kernel)
theorem W575 : Cond.code yX8_totalVolume cX8_totalVolume 1 (some .long) ∈ BIG := big_mem (i := 575) (by decide +kernel) (by decide +kernel)
theorem W577 : Cond.instanceMethod yX8_totalVolumeBySounds ∈ BIG := big_mem (i := 577) (by decide +kernel) (by decide +kernel)
theorem W578 : Cond.selects yX8_totalVolumeBySounds.cls yX8_totalVolumeBySounds yX8_totalVolumeBySounds ∈ BIG := big_mem (i := 578) (by decide +kernel) (by decide +kernel)
theorem W579 : Cond.code yX8_totalVolumeBySounds cX8_totalVolumeBySounds 1 (some .long) ∈ BIG := big_mem (i := 579) (by decide +kernel) (by decide +kernel)
theorem W580 : Cond.methodLink RX8 231 yX8_soundsVolume ∈ BIG := big_mem (i := 580) (by decide +kernel) (by decide +kernel)
theorem W582 : Cond.instanceMethod yX8_soundsVolume ∈ BIG := big_mem (i := 582) (by decide +kernel) (by decide +kernel)
theorem W583 : Cond.code yX8_soundsVolume cX8_soundsVolume 5 (some .long) ∈ BIG := big_mem (i := 583) (by decide +kernel) (by decide +kernel)
theorem W584 : Cond.methodLink RX8 235 yX5_soundsOf ∈ BIG := big_mem (i := 584) (by decide +kernel) (by decide +kernel)
theorem W585 : Cond.instanceMethod yX5_soundsOf ∈ BIG := big_mem (i := 585) (by decide +kernel) (by decide +kernel)
theorem W586 : Cond.selects yX5_soundsOf.cls yX5_soundsOf yX5_soundsOf ∈ BIG := big_mem (i := 586) (by decide +kernel) (by decide +kernel)
theorem W587 : Cond.code yX5_soundsOf cX5_soundsOf 4 (some .int) ∈ BIG := big_mem (i := 587) (by decide +kernel) (by decide +kernel)
theorem W588 : Cond.methodLink RX8 180 yX8_volumeOf ∈ BIG := big_mem (i := 588) (by decide +kernel) (by decide +kernel)
theorem W590 : Cond.instanceMethod yX8_isConsistent ∈ BIG := big_mem (i := 590) (by decide +kernel) (by decide +kernel)
theorem W591 : Cond.selects yX8_isConsistent.cls yX8_isConsistent yX8_isConsistent ∈ BIG := big_mem (i := 591) (by decide +kernel) (by decide +kernel)
theorem W592 : Cond.code yX8_isConsistent cX8_isConsistent 1 (some .boolean) ∈ BIG := big_mem (i := 592) (by decide +kernel) (by decide +kernel)
theorem W593 : Cond.methodLink RX8 264 yX8_totalVolume ∈ BIG := big_mem (i := 593) (by decide +kernel) (by decide +kernel)
theorem W594 : Cond.methodLink RX8 268 yX8_totalVolumeBySounds ∈ BIG := big_mem (i := 594) (by decide +kernel) (by decide +kernel)
theorem W595 : Cond.methodLink RX8 271 yX8_period ∈ BIG := big_mem (i := 595) (by decide +kernel) (by decide +kernel)
theorem W596 : Cond.methodLink RX8 274 yX8_periodBySearch ∈ BIG := big_mem (i := 596) (by decide +kernel) (by decide +kernel)
theorem W597 : Cond.methodLink RX8 277 yX8_columnVolumesAgree ∈ BIG := big_mem (i := 597) (by decide +kernel) (by decide +kernel)
theorem W599 : Cond.instanceMethod yX8_columnVolumesAgree ∈ BIG := big_mem (i := 599) (by decide +kernel) (by decide +kernel)
theorem W600 : Cond.code yX8_columnVolumesAgree cX8_columnVolumesAgree 3 (some .boolean) ∈ BIG := big_mem (i := 600) (by decide +kernel) (by decide +kernel)
theorem W601 : Cond.methodLink RX8 381 yX8_columnVolume ∈ BIG := big_mem (i := 601) (by decide +kernel) (by decide +kernel)
theorem W602 : Cond.instanceMethod yX8_columnVolume ∈ BIG := big_mem (i := 602) (by decide +kernel) (by decide +kernel)
theorem W603 : Cond.selects yX8_columnVolume.cls yX8_columnVolume yX8_columnVolume ∈ BIG := big_mem (i := 603) (by decide +kernel) (by decide +kernel)
theorem W604 : Cond.code yX8_columnVolume cX8_columnVolume 3 (some .int) ∈ BIG := big_mem (i := 604) (by decide +kernel) (by decide +kernel)
theorem W605 : Cond.methodLink RX8 184 yX8_sectionWithColumn ∈ BIG := big_mem (i := 605) (by decide +kernel) (by decide +kernel)
theorem W607 : Cond.instanceMethod yX8_sectionWithColumn ∈ BIG := big_mem (i := 607) (by decide +kernel) (by decide +kernel)
theorem W608 : Cond.code yX8_sectionWithColumn cX8_sectionWithColumn 4 (some (.object "ScoreOrchestra$Section")) ∈ BIG := big_mem (i := 608) (by decide +kernel) (by decide +kernel)
theorem W609 : Cond.methodLink RX8 376 yX4_hasColumn ∈ BIG := big_mem (i := 609) (by decide +kernel) (by decide +kernel)
theorem W610 : Cond.instanceMethod yX4_hasColumn ∈ BIG := big_mem (i := 610) (by decide +kernel) (by decide +kernel)
theorem W611 : Cond.selects yX4_hasColumn.cls yX4_hasColumn yX4_hasColumn ∈ BIG := big_mem (i := 611) (by decide +kernel) (by decide +kernel)
theorem W612 : Cond.code yX4_hasColumn cX4_hasColumn 2 (some .boolean) ∈ BIG := big_mem (i := 612) (by decide +kernel) (by decide +kernel)
theorem W614 : Cond.methodLink RX8 188 yX4_volumeOfColumn ∈ BIG := big_mem (i := 614) (by decide +kernel) (by decide +kernel)
theorem W615 : Cond.methodLink RX8 384 yX8_columnVolumeByTransposing ∈ BIG := big_mem (i := 615) (by decide +kernel) (by decide +kernel)
theorem W616 : Cond.instanceMethod yX8_columnVolumeByTransposing ∈ BIG := big_mem (i := 616) (by decide +kernel) (by decide +kernel)
theorem W617 : Cond.selects yX8_columnVolumeByTransposing.cls yX8_columnVolumeByTransposing yX8_columnVolumeByTransposing ∈ BIG := big_mem (i := 617) (by decide +kernel) (by decide +kernel)
theorem W618 : Cond.code yX8_columnVolumeByTransposing cX8_columnVolumeByTransposing 3 (some .int) ∈ BIG := big_mem (i := 618) (by decide +kernel) (by decide +kernel)
theorem W619 : Cond.methodLink RX8 164 yX4_copyFrom ∈ BIG := big_mem (i := 619) (by decide +kernel) (by decide +kernel)
theorem W620 : Cond.methodLink RX8 168 yX4_flip ∈ BIG := big_mem (i := 620) (by decide +kernel) (by decide +kernel)
theorem W621 : Cond.instanceMethod yX4_flip ∈ BIG := big_mem (i := 621) (by decide +kernel) (by decide +kernel)
theorem W622 : Cond.selects yX4_flip.cls yX4_flip yX4_flip ∈ BIG := big_mem (i := 622) (by decide +kernel) (by decide +kernel)
theorem W623 : Cond.code yX4_flip cX4_flip 6 none ∈ BIG := big_mem (i := 623) (by decide +kernel) (by decide +kernel)
theorem W624 : Cond.methodLink RX8 191 yX4_volumeOfRow ∈ BIG := big_mem (i := 624) (by decide +kernel) (by decide +kernel)
theorem W625 : Cond.instanceMethod yX4_volumeOfRow ∈ BIG := big_mem (i := 625) (by decide +kernel) (by decide +kernel)
theorem W626 : Cond.selects yX4_volumeOfRow.cls yX4_volumeOfRow yX4_volumeOfRow ∈ BIG := big_mem (i := 626) (by decide +kernel) (by decide +kernel)
theorem W627 : Cond.code yX4_volumeOfRow cX4_volumeOfRow 4 (some .int) ∈ BIG := big_mem (i := 627) (by decide +kernel) (by decide +kernel)
theorem W628 : Cond.methodLink RX4 55 yX4_noteAt ∈ BIG := big_mem (i := 628) (by decide +kernel) (by decide +kernel)
theorem W629 : Cond.instanceMethod yX4_noteAt ∈ BIG := big_mem (i := 629) (by decide +kernel) (by decide +kernel)
theorem W630 : Cond.selects yX4_noteAt.cls yX4_noteAt yX4_noteAt ∈ BIG := big_mem (i := 630) (by decide +kernel) (by decide +kernel)
theorem W631 : Cond.code yX4_noteAt cX4_noteAt 3 (some .int) ∈ BIG := big_mem (i := 631) (by decide +kernel) (by decide +kernel)
theorem W632 : Cond.methodLink RX4 51 yX4_hasPlace ∈ BIG := big_mem (i := 632) (by decide +kernel) (by decide +kernel)
theorem W633 : Cond.instanceMethod yX4_hasPlace ∈ BIG := big_mem (i := 633) (by decide +kernel) (by decide +kernel)
theorem W634 : Cond.selects yX4_hasPlace.cls yX4_hasPlace yX4_hasPlace ∈ BIG := big_mem (i := 634) (by decide +kernel) (by decide +kernel)
theorem W635 : Cond.code yX4_hasPlace cX4_hasPlace 3 (some .boolean) ∈ BIG := big_mem (i := 635) (by decide +kernel) (by decide +kernel)
theorem W636 : Cond.methodLink RX4 44 yX4_hasRow ∈ BIG := big_mem (i := 636) (by decide +kernel) (by decide +kernel)
theorem W637 : Cond.instanceMethod yX4_hasRow ∈ BIG := big_mem (i := 637) (by decide +kernel) (by decide +kernel)
theorem W638 : Cond.selects yX4_hasRow.cls yX4_hasRow yX4_hasRow ∈ BIG := big_mem (i := 638) (by decide +kernel) (by decide +kernel)
theorem W639 : Cond.code yX4_hasRow cX4_hasRow 2 (some .boolean) ∈ BIG := big_mem (i := 639) (by decide +kernel) (by decide +kernel)
theorem W640 : Cond.methodLink RX4 48 yX4_hasColumn ∈ BIG := big_mem (i := 640) (by decide +kernel) (by decide +kernel)
theorem W642 : Cond.instanceMethod yX8_save ∈ BIG := big_mem (i := 642) (by decide +kernel) (by decide +kernel)
theorem W643 : Cond.selects yX8_save.cls yX8_save yX8_save ∈ BIG := big_mem (i := 643) (by decide +kernel) (by decide +kernel)
theorem W644 : Cond.code yX8_save cX8_save 1 (some .int) ∈ BIG := big_mem (i := 644) (by decide +kernel) (by decide +kernel)
theorem W645 : Cond.methodLink RX8 208 yX5_copyFrom ∈ BIG := big_mem (i := 645) (by decide +kernel) (by decide +kernel)
theorem W652 : Cond.instanceMethod yX8_addSection ∈ BIG := big_mem (i := 652) (by decide +kernel) (by decide +kernel)
theorem W653 : Cond.selects yX8_addSection.cls yX8_addSection yX8_addSection ∈ BIG := big_mem (i := 653) (by decide +kernel) (by decide +kernel)
theorem W654 : Cond.code yX8_addSection cX8_addSection 4 (some .int) ∈ BIG := big_mem (i := 654) (by decide +kernel) (by decide +kernel)
theorem W655 : Cond.methodLink RX8 65 yX5_add ∈ BIG := big_mem (i := 655) (by decide +kernel) (by decide +kernel)
theorem W656 : Cond.instanceMethod yX5_add ∈ BIG := big_mem (i := 656) (by decide +kernel) (by decide +kernel)
theorem W657 : Cond.selects yX5_add.cls yX5_add yX5_add ∈ BIG := big_mem (i := 657) (by decide +kernel) (by decide +kernel)
theorem W658 : Cond.code yX5_add cX5_add 4 (some .int) ∈ BIG := big_mem (i := 658) (by decide +kernel) (by decide +kernel)
theorem W660 : Cond.static yX8_isSide ∈ BIG := big_mem (i := 660) (by decide +kernel) (by decide +kernel)
theorem W661 : Cond.code yX8_isSide cX8_isSide 1 (some .boolean) ∈ BIG := big_mem (i := 661) (by decide +kernel) (by decide +kernel)
theorem W662 : Cond.methodLink RX5 66 yX4_begin ∈ BIG := big_mem (i := 662) (by decide +kernel) (by decide +kernel)
theorem W663 : Cond.instanceMethod yX4_begin ∈ BIG := big_mem (i := 663) (by decide +kernel) (by decide +kernel)
theorem W664 : Cond.selects yX4_begin.cls yX4_begin yX4_begin ∈ BIG := big_mem (i := 664) (by decide +kernel) (by decide +kernel)
theorem W665 : Cond.code yX4_begin cX4_begin 5 none ∈ BIG := big_mem (i := 665) (by decide +kernel) (by decide +kernel)
theorem W691 : Cond.instanceMethod yX8_removeSection ∈ BIG := big_mem (i := 691) (by decide +kernel) (by decide +kernel)
theorem W692 : Cond.selects yX8_removeSection.cls yX8_removeSection yX8_removeSection ∈ BIG := big_mem (i := 692) (by decide +kernel) (by decide +kernel)
theorem W693 : Cond.code yX8_removeSection cX8_removeSection 2 (some .int) ∈ BIG := big_mem (i := 693) (by decide +kernel) (by decide +kernel)
theorem W694 : Cond.methodLink RX8 73 yX5_drop ∈ BIG := big_mem (i := 694) (by decide +kernel) (by decide +kernel)
theorem W695 : Cond.instanceMethod yX5_drop ∈ BIG := big_mem (i := 695) (by decide +kernel) (by decide +kernel)
theorem W696 : Cond.selects yX5_drop.cls yX5_drop yX5_drop ∈ BIG := big_mem (i := 696) (by decide +kernel) (by decide +kernel)
theorem W697 : Cond.code yX5_drop cX5_drop 4 (some .int) ∈ BIG := big_mem (i := 697) (by decide +kernel) (by decide +kernel)
theorem W698 : Cond.methodLink RX5 70 yX5_hasSection ∈ BIG := big_mem (i := 698) (by decide +kernel) (by decide +kernel)
theorem W703 : Cond.instanceMethod yX8_setNote ∈ BIG := big_mem (i := 703) (by decide +kernel) (by decide +kernel)
theorem W704 : Cond.selects yX8_setNote.cls yX8_setNote yX8_setNote ∈ BIG := big_mem (i := 704) (by decide +kernel) (by decide +kernel)
theorem W705 : Cond.code yX8_setNote cX8_setNote 5 (some .int) ∈ BIG := big_mem (i := 705) (by decide +kernel) (by decide +kernel)
theorem W706 : Cond.methodLink RX8 76 yX5_write ∈ BIG := big_mem (i := 706) (by decide +kernel) (by decide +kernel)
theorem W707 : Cond.instanceMethod yX5_write ∈ BIG := big_mem (i := 707) (by decide +kernel) (by decide +kernel)
theorem W708 : Cond.selects yX5_write.cls yX5_write yX5_write ∈ BIG := big_mem (i := 708) (by decide +kernel) (by decide +kernel)
theorem W709 : Cond.code yX5_write cX5_write 6 (some .int) ∈ BIG := big_mem (i := 709) (by decide +kernel) (by decide +kernel)
theorem W710 : Cond.methodLink RX5 73 yX4_hasPlace ∈ BIG := big_mem (i := 710) (by decide +kernel) (by decide +kernel)
theorem W711 : Cond.methodLink RX5 77 yX4_noteAt ∈ BIG := big_mem (i := 711) (by decide +kernel) (by decide +kernel)
theorem W712 : Cond.methodLink RX5 81 yX4_putNote ∈ BIG := big_mem (i := 712) (by decide +kernel) (by decide +kernel)
theorem W713 : Cond.instanceMethod yX4_putNote ∈ BIG := big_mem (i := 713) (by decide +kernel) (by decide +kernel)
theorem W714 : Cond.selects yX4_putNote.cls yX4_putNote yX4_putNote ∈ BIG := big_mem (i := 714) (by decide +kernel) (by decide +kernel)
theorem W715 : Cond.code yX4_putNote cX4_putNote 4 none ∈ BIG := big_mem (i := 715) (by decide +kernel) (by decide +kernel)
theorem W720 : Cond.instanceMethod yX8_setMasked ∈ BIG := big_mem (i := 720) (by decide +kernel) (by decide +kernel)
theorem W721 : Cond.selects yX8_setMasked.cls yX8_setMasked yX8_setMasked ∈ BIG := big_mem (i := 721) (by decide +kernel) (by decide +kernel)
theorem W722 : Cond.code yX8_setMasked cX8_setMasked 4 (some .boolean) ∈ BIG := big_mem (i := 722) (by decide +kernel) (by decide +kernel)
theorem W723 : Cond.methodLink RX8 80 yX5_mask ∈ BIG := big_mem (i := 723) (by decide +kernel) (by decide +kernel)
theorem W724 : Cond.instanceMethod yX5_mask ∈ BIG := big_mem (i := 724) (by decide +kernel) (by decide +kernel)
theorem W725 : Cond.selects yX5_mask.cls yX5_mask yX5_mask ∈ BIG := big_mem (i := 725) (by decide +kernel) (by decide +kernel)
theorem W726 : Cond.code yX5_mask cX5_mask 5 (some .int) ∈ BIG := big_mem (i := 726) (by decide +kernel) (by decide +kernel)
theorem W728 : Cond.static yX8_isMaskColumn ∈ BIG := big_mem (i := 728) (by decide +kernel) (by decide +kernel)
theorem W729 : Cond.code yX8_isMaskColumn cX8_isMaskColumn 1 (some .boolean) ∈ BIG := big_mem (i := 729) (by decide +kernel) (by decide +kernel)
theorem W730 : Cond.methodLink RX5 91 yX4_putMask ∈ BIG := big_mem (i := 730) (by decide +kernel) (by decide +kernel)
theorem W731 : Cond.instanceMethod yX4_putMask ∈ BIG := big_mem (i := 731) (by decide +kernel) (by decide +kernel)
theorem W732 : Cond.selects yX4_putMask.cls yX4_putMask yX4_putMask ∈ BIG := big_mem (i := 732) (by decide +kernel) (by decide +kernel)
theorem W733 : Cond.code yX4_putMask cX4_putMask 3 none ∈ BIG := big_mem (i := 733) (by decide +kernel) (by decide +kernel)
theorem W738 : Cond.instanceMethod yX8_transpose ∈ BIG := big_mem (i := 738) (by decide +kernel) (by decide +kernel)
theorem W739 : Cond.selects yX8_transpose.cls yX8_transpose yX8_transpose ∈ BIG := big_mem (i := 739) (by decide +kernel) (by decide +kernel)
theorem W740 : Cond.code yX8_transpose cX8_transpose 2 (some .int) ∈ BIG := big_mem (i := 740) (by decide +kernel) (by decide +kernel)
theorem W741 : Cond.methodLink RX8 84 yX5_flip ∈ BIG := big_mem (i := 741) (by decide +kernel) (by decide +kernel)
theorem W742 : Cond.instanceMethod yX5_flip ∈ BIG := big_mem (i := 742) (by decide +kernel) (by decide +kernel)
theorem W743 : Cond.selects yX5_flip.cls yX5_flip yX5_flip ∈ BIG := big_mem (i := 743) (by decide +kernel) (by decide +kernel)
theorem W744 : Cond.code yX5_flip cX5_flip 2 (some .int) ∈ BIG := big_mem (i := 744) (by decide +kernel) (by decide +kernel)
theorem W745 : Cond.methodLink RX5 95 yX4_flip ∈ BIG := big_mem (i := 745) (by decide +kernel) (by decide +kernel)
theorem W750 : Cond.instanceMethod yX8_reverse ∈ BIG := big_mem (i := 750) (by decide +kernel) (by decide +kernel)
theorem W751 : Cond.selects yX8_reverse.cls yX8_reverse yX8_reverse ∈ BIG := big_mem (i := 751) (by decide +kernel) (by decide +kernel)
theorem W752 : Cond.code yX8_reverse cX8_reverse 2 (some .int) ∈ BIG := big_mem (i := 752) (by decide +kernel) (by decide +kernel)
theorem W753 : Cond.methodLink RX8 87 yX5_turn ∈ BIG := big_mem (i := 753) (by decide +kernel) (by decide +kernel)
theorem W754 : Cond.instanceMethod yX5_turn ∈ BIG := big_mem (i := 754) (by decide +kernel) (by decide +kernel)
theorem W755 : Cond.selects yX5_turn.cls yX5_turn yX5_turn ∈ BIG := big_mem (i := 755) (by decide +kernel) (by decide +kernel)
theorem W756 : Cond.code yX5_turn cX5_turn 2 (some .int) ∈ BIG := big_mem (i := 756) (by decide +kernel) (by decide +kernel)
theorem W757 : Cond.methodLink RX5 101 yX4_turn ∈ BIG := big_mem (i := 757) (by decide +kernel) (by decide +kernel)
theorem W758 : Cond.instanceMethod yX4_turn ∈ BIG := big_mem (i := 758) (by decide +kernel) (by decide +kernel)
theorem W759 : Cond.selects yX4_turn.cls yX4_turn yX4_turn ∈ BIG := big_mem (i := 759) (by decide +kernel) (by decide +kernel)
theorem W760 : Cond.code yX4_turn cX4_turn 6 (some .int) ∈ BIG := big_mem (i := 760) (by decide +kernel) (by decide +kernel)
theorem W761 : Cond.methodLink RX4 59 yX4_putNote ∈ BIG := big_mem (i := 761) (by decide +kernel) (by decide +kernel)
theorem W767 : Cond.instanceMethod yX8_raise ∈ BIG := big_mem (i := 767) (by decide +kernel) (by decide +kernel)
theorem W768 : Cond.selects yX8_raise.cls yX8_raise yX8_raise ∈ BIG := big_mem (i := 768) (by decide +kernel) (by decide +kernel)
theorem W769 : Cond.code yX8_raise cX8_raise 3 (some .int) ∈ BIG := big_mem (i := 769) (by decide +kernel) (by decide +kernel)
theorem W770 : Cond.methodLink RX8 90 yX5_lift ∈ BIG := big_mem (i := 770) (by decide +kernel) (by decide +kernel)
theorem W771 : Cond.instanceMethod yX5_lift ∈ BIG := big_mem (i := 771) (by decide +kernel) (by decide +kernel)
theorem W772 : Cond.selects yX5_lift.cls yX5_lift yX5_lift ∈ BIG := big_mem (i := 772) (by decide +kernel) (by decide +kernel)
theorem W773 : Cond.code yX5_lift cX5_lift 3 (some .int) ∈ BIG := big_mem (i := 773) (by decide +kernel) (by decide +kernel)
theorem W774 : Cond.methodLink RX5 105 yX4_canLift ∈ BIG := big_mem (i := 774) (by decide +kernel) (by decide +kernel)
theorem W775 : Cond.instanceMethod yX4_canLift ∈ BIG := big_mem (i := 775) (by decide +kernel) (by decide +kernel)
theorem W776 : Cond.selects yX4_canLift.cls yX4_canLift yX4_canLift ∈ BIG := big_mem (i := 776) (by decide +kernel) (by decide +kernel)
theorem W777 : Cond.code yX4_canLift cX4_canLift 4 (some .boolean) ∈ BIG := big_mem (i := 777) (by decide +kernel) (by decide +kernel)
theorem W778 : Cond.methodLink RX5 108 yX4_lift ∈ BIG := big_mem (i := 778) (by decide +kernel) (by decide +kernel)
theorem W779 : Cond.instanceMethod yX4_lift ∈ BIG := big_mem (i := 779) (by decide +kernel) (by decide +kernel)
theorem W780 : Cond.selects yX4_lift.cls yX4_lift yX4_lift ∈ BIG := big_mem (i := 780) (by decide +kernel) (by decide +kernel)
theorem W781 : Cond.code yX4_lift cX4_lift 4 (some .int) ∈ BIG := big_mem (i := 781) (by decide +kernel) (by decide +kernel)
theorem W786 : Cond.instanceMethod yX8_setTempo ∈ BIG := big_mem (i := 786) (by decide +kernel) (by decide +kernel)
theorem W787 : Cond.selects yX8_setTempo.cls yX8_setTempo yX8_setTempo ∈ BIG := big_mem (i := 787) (by decide +kernel) (by decide +kernel)
theorem W788 : Cond.code yX8_setTempo cX8_setTempo 2 (some .int) ∈ BIG := big_mem (i := 788) (by decide +kernel) (by decide +kernel)
theorem W789 : Cond.methodLink RX8 94 yX5_changeTempo ∈ BIG := big_mem (i := 789) (by decide +kernel) (by decide +kernel)
theorem W790 : Cond.instanceMethod yX5_changeTempo ∈ BIG := big_mem (i := 790) (by decide +kernel) (by decide +kernel)
theorem W791 : Cond.selects yX5_changeTempo.cls yX5_changeTempo yX5_changeTempo ∈ BIG := big_mem (i := 791) (by decide +kernel) (by decide +kernel)
theorem W792 : Cond.code yX5_changeTempo cX5_changeTempo 3 (some .int) ∈ BIG := big_mem (i := 792) (by decide +kernel) (by decide +kernel)
theorem W797 : Cond.instanceMethod yX8_setLimit ∈ BIG := big_mem (i := 797) (by decide +kernel) (by decide +kernel)
theorem W798 : Cond.selects yX8_setLimit.cls yX8_setLimit yX8_setLimit ∈ BIG := big_mem (i := 798) (by decide +kernel) (by decide +kernel)
theorem W799 : Cond.code yX8_setLimit cX8_setLimit 2 (some .int) ∈ BIG := big_mem (i := 799) (by decide +kernel) (by decide +kernel)
theorem W800 : Cond.methodLink RX8 97 yX5_changeLimit ∈ BIG := big_mem (i := 800) (by decide +kernel) (by decide +kernel)
theorem W801 : Cond.instanceMethod yX5_changeLimit ∈ BIG := big_mem (i := 801) (by decide +kernel) (by decide +kernel)
theorem W802 : Cond.selects yX5_changeLimit.cls yX5_changeLimit yX5_changeLimit ∈ BIG := big_mem (i := 802) (by decide +kernel) (by decide +kernel)
theorem W803 : Cond.code yX5_changeLimit cX5_changeLimit 3 (some .int) ∈ BIG := big_mem (i := 803) (by decide +kernel) (by decide +kernel)
theorem W808 : Cond.instanceMethod yX8_conductBeats ∈ BIG := big_mem (i := 808) (by decide +kernel) (by decide +kernel)
theorem W809 : Cond.selects yX8_conductBeats.cls yX8_conductBeats yX8_conductBeats ∈ BIG := big_mem (i := 809) (by decide +kernel) (by decide +kernel)
theorem W810 : Cond.code yX8_conductBeats cX8_conductBeats 2 (some .int) ∈ BIG := big_mem (i := 810) (by decide +kernel) (by decide +kernel)
theorem W811 : Cond.methodLink RX8 106 yX8_isBeats ∈ BIG := big_mem (i := 811) (by decide +kernel) (by decide +kernel)
theorem W812 : Cond.static yX8_isBeats ∈ BIG := big_mem (i := 812) (by decide +kernel) (by decide +kernel)
theorem W813 : Cond.code yX8_isBeats cX8_isBeats 1 (some .boolean) ∈ BIG := big_mem (i := 813) (by decide +kernel) (by decide +kernel)
theorem W818 : Cond.instanceMethod yX8_kind ∈ BIG := big_mem (i := 818) (by decide +kernel) (by decide +kernel)
theorem W819 : Cond.selects yX8_kind.cls yX8_kind yX8_kind ∈ BIG := big_mem (i := 819) (by decide +kernel) (by decide +kernel)
theorem W820 : Cond.code yX8_kind cX8_kind 2 (some .char) ∈ BIG := big_mem (i := 820) (by decide +kernel) (by decide +kernel)
theorem W825 : Cond.instanceMethod yX8_rows ∈ BIG := big_mem (i := 825) (by decide +kernel) (by decide +kernel)
theorem W826 : Cond.selects yX8_rows.cls yX8_rows yX8_rows ∈ BIG := big_mem (i := 826) (by decide +kernel) (by decide +kernel)
theorem W827 : Cond.code yX8_rows cX8_rows 2 (some .int) ∈ BIG := big_mem (i := 827) (by decide +kernel) (by decide +kernel)
theorem W836 : Cond.instanceMethod yX8_note ∈ BIG := big_mem (i := 836) (by decide +kernel) (by decide +kernel)
theorem W837 : Cond.selects yX8_note.cls yX8_note yX8_note ∈ BIG := big_mem (i := 837) (by decide +kernel) (by decide +kernel)
theorem W838 : Cond.code yX8_note cX8_note 5 (some .int) ∈ BIG := big_mem (i := 838) (by decide +kernel) (by decide +kernel)
theorem W839 : Cond.methodLink RX8 133 yX4_hasPlace ∈ BIG := big_mem (i := 839) (by decide +kernel) (by decide +kernel)
theorem W841 : Cond.methodLink RX8 144 yX4_noteAt ∈ BIG := big_mem (i := 841) (by decide +kernel) (by decide +kernel)
theorem W846 : Cond.instanceMethod yX8_isMasked ∈ BIG := big_mem (i := 846) (by decide +kernel) (by decide +kernel)
theorem W847 : Cond.selects yX8_isMasked.cls yX8_isMasked yX8_isMasked ∈ BIG := big_mem (i := 847) (by decide +kernel) (by decide +kernel)
theorem W848 : Cond.code yX8_isMasked cX8_isMasked 4 (some .boolean) ∈ BIG := big_mem (i := 848) (by decide +kernel) (by decide +kernel)
theorem W849 : Cond.methodLink RX8 147 yX8_isMaskColumn ∈ BIG := big_mem (i := 849) (by decide +kernel) (by decide +kernel)
theorem W851 : Cond.methodLink RX8 155 yX4_masks ∈ BIG := big_mem (i := 851) (by decide +kernel) (by decide +kernel)
theorem W856 : Cond.instanceMethod yX8_fatigue ∈ BIG := big_mem (i := 856) (by decide +kernel) (by decide +kernel)
theorem W857 : Cond.selects yX8_fatigue.cls yX8_fatigue yX8_fatigue ∈ BIG := big_mem (i := 857) (by decide +kernel) (by decide +kernel)
theorem W858 : Cond.code yX8_fatigue cX8_fatigue 2 (some .int) ∈ BIG := big_mem (i := 858) (by decide +kernel) (by decide +kernel)
theorem W863 : Cond.instanceMethod yX8_restingBeats ∈ BIG := big_mem (i := 863) (by decide +kernel) (by decide +kernel)
theorem W864 : Cond.selects yX8_restingBeats.cls yX8_restingBeats yX8_restingBeats ∈ BIG := big_mem (i := 864) (by decide +kernel) (by decide +kernel)
theorem W865 : Cond.code yX8_restingBeats cX8_restingBeats 2 (some .int) ∈ BIG := big_mem (i := 865) (by decide +kernel) (by decide +kernel)
theorem W870 : Cond.instanceMethod yX8_isSymmetric ∈ BIG := big_mem (i := 870) (by decide +kernel) (by decide +kernel)
theorem W871 : Cond.selects yX8_isSymmetric.cls yX8_isSymmetric yX8_isSymmetric ∈ BIG := big_mem (i := 871) (by decide +kernel) (by decide +kernel)
theorem W872 : Cond.code yX8_isSymmetric cX8_isSymmetric 3 (some .boolean) ∈ BIG := big_mem (i := 872) (by decide +kernel) (by decide +kernel)
theorem W873 : Cond.methodLink RX8 170 yX4_hasScoreOf ∈ BIG := big_mem (i := 873) (by decide +kernel) (by decide +kernel)
theorem W874 : Cond.instanceMethod yX4_hasScoreOf ∈ BIG := big_mem (i := 874) (by decide +kernel) (by decide +kernel)
theorem W875 : Cond.selects yX4_hasScoreOf.cls yX4_hasScoreOf yX4_hasScoreOf ∈ BIG := big_mem (i := 875) (by decide +kernel) (by decide +kernel)
theorem W876 : Cond.code yX4_hasScoreOf cX4_hasScoreOf 3 (some .boolean) ∈ BIG := big_mem (i := 876) (by decide +kernel) (by decide +kernel)
theorem W881 : Cond.instanceMethod yX8_areAlike ∈ BIG := big_mem (i := 881) (by decide +kernel) (by decide +kernel)
theorem W882 : Cond.selects yX8_areAlike.cls yX8_areAlike yX8_areAlike ∈ BIG := big_mem (i := 882) (by decide +kernel) (by decide +kernel)
theorem W883 : Cond.code yX8_areAlike cX8_areAlike 3 (some .boolean) ∈ BIG := big_mem (i := 883) (by decide +kernel) (by decide +kernel)
theorem W888 : Cond.instanceMethod yX8_noteVolume ∈ BIG := big_mem (i := 888) (by decide +kernel) (by decide +kernel)
theorem W889 : Cond.selects yX8_noteVolume.cls yX8_noteVolume yX8_noteVolume ∈ BIG := big_mem (i := 889) (by decide +kernel) (by decide +kernel)
theorem W890 : Cond.code yX8_noteVolume cX8_noteVolume 3 (some .int) ∈ BIG := big_mem (i := 890) (by decide +kernel) (by decide +kernel)
theorem W891 : Cond.methodLink RX8 174 yX8_kindIndex ∈ BIG := big_mem (i := 891) (by decide +kernel) (by decide +kernel)
theorem W910 : Cond.instanceMethod yX8_beatsUntilBreak ∈ BIG := big_mem (i := 910) (by decide +kernel) (by decide +kernel)
theorem W911 : Cond.selects yX8_beatsUntilBreak.cls yX8_beatsUntilBreak yX8_beatsUntilBreak ∈ BIG := big_mem (i := 911) (by decide +kernel) (by decide +kernel)
theorem W912 : Cond.code yX8_beatsUntilBreak cX8_beatsUntilBreak 2 (some .int) ∈ BIG := big_mem (i := 912) (by decide +kernel) (by decide +kernel)
theorem W913 : Cond.methodLink RX8 210 yX5_playBeat ∈ BIG := big_mem (i := 913) (by decide +kernel) (by decide +kernel)
theorem W914 : Cond.classLink RX8 214 "java/util/NoSuchElementException" ∈ BIG := big_mem (i := 914) (by decide +kernel) (by decide +kernel)
theorem W934 : Cond.instanceMethod yX8_totalWithin ∈ BIG := big_mem (i := 934) (by decide +kernel) (by decide +kernel)
theorem W935 : Cond.selects yX8_totalWithin.cls yX8_totalWithin yX8_totalWithin ∈ BIG := big_mem (i := 935) (by decide +kernel) (by decide +kernel)
theorem W936 : Cond.code yX8_totalWithin cX8_totalWithin 2 (some .int) ∈ BIG := big_mem (i := 936) (by decide +kernel) (by decide +kernel)
theorem W942 : Cond.instanceMethod yX8_playedVolume ∈ BIG := big_mem (i := 942) (by decide +kernel) (by decide +kernel)
theorem W943 : Cond.selects yX8_playedVolume.cls yX8_playedVolume yX8_playedVolume ∈ BIG := big_mem (i := 943) (by decide +kernel) (by decide +kernel)
theorem W944 : Cond.code yX8_playedVolume cX8_playedVolume 2 (some .int) ∈ BIG := big_mem (i := 944) (by decide +kernel) (by decide +kernel)
theorem W949 : Cond.instanceMethod yX8_soundCount ∈ BIG := big_mem (i := 949) (by decide +kernel) (by decide +kernel)
theorem W950 : Cond.selects yX8_soundCount.cls yX8_soundCount yX8_soundCount ∈ BIG := big_mem (i := 950) (by decide +kernel) (by decide +kernel)
theorem W951 : Cond.code yX8_soundCount cX8_soundCount 3 (some .int) ∈ BIG := big_mem (i := 951) (by decide +kernel) (by decide +kernel)
theorem W956 : Cond.instanceMethod yX8_greatestTotal ∈ BIG := big_mem (i := 956) (by decide +kernel) (by decide +kernel)
theorem W957 : Cond.selects yX8_greatestTotal.cls yX8_greatestTotal yX8_greatestTotal ∈ BIG := big_mem (i := 957) (by decide +kernel) (by decide +kernel)
theorem W958 : Cond.code yX8_greatestTotal cX8_greatestTotal 1 (some .int) ∈ BIG := big_mem (i := 958) (by decide +kernel) (by decide +kernel)
theorem W964 : Cond.instanceMethod yX8_loggedTotal ∈ BIG := big_mem (i := 964) (by decide +kernel) (by decide +kernel)
theorem W965 : Cond.selects yX8_loggedTotal.cls yX8_loggedTotal yX8_loggedTotal ∈ BIG := big_mem (i := 965) (by decide +kernel) (by decide +kernel)
theorem W966 : Cond.code yX8_loggedTotal cX8_loggedTotal 2 (some .int) ∈ BIG := big_mem (i := 966) (by decide +kernel) (by decide +kernel)
theorem W968 : Cond.methodLink RX8 245 yX5_totalOf ∈ BIG := big_mem (i := 968) (by decide +kernel) (by decide +kernel)
theorem W969 : Cond.instanceMethod yX5_totalOf ∈ BIG := big_mem (i := 969) (by decide +kernel) (by decide +kernel)
theorem W970 : Cond.selects yX5_totalOf.cls yX5_totalOf yX5_totalOf ∈ BIG := big_mem (i := 970) (by decide +kernel) (by decide +kernel)
theorem W971 : Cond.code yX5_totalOf cX5_totalOf 3 (some .int) ∈ BIG := big_mem (i := 971) (by decide +kernel) (by decide +kernel)
theorem W976 : Cond.instanceMethod yX8_sectionByVolume ∈ BIG := big_mem (i := 976) (by decide +kernel) (by decide +kernel)
theorem W977 : Cond.selects yX8_sectionByVolume.cls yX8_sectionByVolume yX8_sectionByVolume ∈ BIG := big_mem (i := 977) (by decide +kernel) (by decide +kernel)
theorem W978 : Cond.code yX8_sectionByVolume cX8_sectionByVolume 3 (some .int) ∈ BIG := big_mem (i := 978) (by decide +kernel) (by decide +kernel)
theorem W979 : Cond.methodLink RX8 248 yX8_sectionRank ∈ BIG := big_mem (i := 979) (by decide +kernel) (by decide +kernel)
theorem W981 : Cond.instanceMethod yX8_sectionRank ∈ BIG := big_mem (i := 981) (by decide +kernel) (by decide +kernel)
theorem W982 : Cond.code yX8_sectionRank cX8_sectionRank 4 (some .int) ∈ BIG := big_mem (i := 982) (by decide +kernel) (by decide +kernel)
theorem W983 : Cond.methodLink RX8 387 yX8_precedes ∈ BIG := big_mem (i := 983) (by decide +kernel) (by decide +kernel)
theorem W985 : Cond.instanceMethod yX8_precedes ∈ BIG := big_mem (i := 985) (by decide +kernel) (by decide +kernel)
theorem W986 : Cond.code yX8_precedes cX8_precedes 3 (some .boolean) ∈ BIG := big_mem (i := 986) (by decide +kernel) (by decide +kernel)
theorem W987 : Cond.methodLink RX8 390 yX8_playedVolume ∈ BIG := big_mem (i := 987) (by decide +kernel) (by decide +kernel)
theorem W988 : Cond.methodLink RX8 393 yX8_fatigue ∈ BIG := big_mem (i := 988) (by decide +kernel) (by decide +kernel)
theorem W994 : Cond.instanceMethod yX8_noteBySounds ∈ BIG := big_mem (i := 994) (by decide +kernel) (by decide +kernel)
theorem W995 : Cond.selects yX8_noteBySounds.cls yX8_noteBySounds yX8_noteBySounds ∈ BIG := big_mem (i := 995) (by decide +kernel) (by decide +kernel)
theorem W996 : Cond.code yX8_noteBySounds cX8_noteBySounds 3 (some .int) ∈ BIG := big_mem (i := 996) (by decide +kernel) (by decide +kernel)
theorem W997 : Cond.methodLink RX8 253 yX8_noteRank ∈ BIG := big_mem (i := 997) (by decide +kernel) (by decide +kernel)
theorem W999 : Cond.instanceMethod yX8_noteRank ∈ BIG := big_mem (i := 999) (by decide +kernel) (by decide +kernel)
theorem W1000 : Cond.code yX8_noteRank cX8_noteRank 6 (some .int) ∈ BIG := big_mem (i := 1000) (by decide +kernel) (by decide +kernel)
theorem W1001 : Cond.methodLink RX8 395 yX5_soundsOfAllKinds ∈ BIG := big_mem (i := 1001) (by decide +kernel) (by decide +kernel)
theorem W1002 : Cond.instanceMethod yX5_soundsOfAllKinds ∈ BIG := big_mem (i := 1002) (by decide +kernel) (by decide +kernel)
theorem W1003 : Cond.selects yX5_soundsOfAllKinds.cls yX5_soundsOfAllKinds yX5_soundsOfAllKinds ∈ BIG := big_mem (i := 1003) (by decide +kernel) (by decide +kernel)
theorem W1004 : Cond.code yX5_soundsOfAllKinds cX5_soundsOfAllKinds 2 (some .int) ∈ BIG := big_mem (i := 1004) (by decide +kernel) (by decide +kernel)
theorem W1005 : Cond.methodLink RX5 154 yX5_soundsOf ∈ BIG := big_mem (i := 1005) (by decide +kernel) (by decide +kernel)
theorem W1025 : Cond.instanceMethod yX8_meanTotal ∈ BIG := big_mem (i := 1025) (by decide +kernel) (by decide +kernel)
theorem W1026 : Cond.selects yX8_meanTotal.cls yX8_meanTotal yX8_meanTotal ∈ BIG := big_mem (i := 1026) (by decide +kernel) (by decide +kernel)
theorem W1027 : Cond.code yX8_meanTotal cX8_meanTotal 1 (some .double) ∈ BIG := big_mem (i := 1027) (by decide +kernel) (by decide +kernel)
theorem W1028 : Cond.classLink RX8 258 "java/lang/ArithmeticException" ∈ BIG := big_mem (i := 1028) (by decide +kernel) (by decide +kernel)
theorem W1034 : Cond.instanceMethod yX8_maskedShare ∈ BIG := big_mem (i := 1034) (by decide +kernel) (by decide +kernel)
theorem W1035 : Cond.selects yX8_maskedShare.cls yX8_maskedShare yX8_maskedShare ∈ BIG := big_mem (i := 1035) (by decide +kernel) (by decide +kernel)
theorem W1036 : Cond.code yX8_maskedShare cX8_maskedShare 3 (some .float) ∈ BIG := big_mem (i := 1036) (by decide +kernel) (by decide +kernel)
theorem W1037 : Cond.methodLink RX8 261 yX4_maskedColumns ∈ BIG := big_mem (i := 1037) (by decide +kernel) (by decide +kernel)
theorem W1038 : Cond.instanceMethod yX4_maskedColumns ∈ BIG := big_mem (i := 1038) (by decide +kernel) (by decide +kernel)
theorem W1039 : Cond.selects yX4_maskedColumns.cls yX4_maskedColumns yX4_maskedColumns ∈ BIG := big_mem (i := 1039) (by decide +kernel) (by decide +kernel)
theorem W1040 : Cond.code yX4_maskedColumns cX4_maskedColumns 3 (some .int) ∈ BIG := big_mem (i := 1040) (by decide +kernel) (by decide +kernel)
theorem W1045 : Cond.instanceMethod yX8_renderScore ∈ BIG := big_mem (i := 1045) (by decide +kernel) (by decide +kernel)
theorem W1046 : Cond.selects yX8_renderScore.cls yX8_renderScore yX8_renderScore ∈ BIG := big_mem (i := 1046) (by decide +kernel) (by decide +kernel)
theorem W1047 : Cond.code yX8_renderScore cX8_renderScore 5 (some .int) ∈ BIG := big_mem (i := 1047) (by decide +kernel) (by decide +kernel)
theorem W1048 : Cond.methodLink RX8 281 yX6_clear ∈ BIG := big_mem (i := 1048) (by decide +kernel) (by decide +kernel)
theorem W1049 : Cond.instanceMethod yX6_clear ∈ BIG := big_mem (i := 1049) (by decide +kernel) (by decide +kernel)
theorem W1050 : Cond.selects yX6_clear.cls yX6_clear yX6_clear ∈ BIG := big_mem (i := 1050) (by decide +kernel) (by decide +kernel)
theorem W1051 : Cond.code yX6_clear cX6_clear 1 none ∈ BIG := big_mem (i := 1051) (by decide +kernel) (by decide +kernel)
theorem W1052 : Cond.methodLink RX8 284 yX6_append ∈ BIG := big_mem (i := 1052) (by decide +kernel) (by decide +kernel)
theorem W1053 : Cond.instanceMethod yX6_append ∈ BIG := big_mem (i := 1053) (by decide +kernel) (by decide +kernel)
theorem W1054 : Cond.selects yX6_append.cls yX6_append yX6_append ∈ BIG := big_mem (i := 1054) (by decide +kernel) (by decide +kernel)
theorem W1055 : Cond.code yX6_append cX6_append 2 none ∈ BIG := big_mem (i := 1055) (by decide +kernel) (by decide +kernel)
theorem W1056 : Cond.methodLink RX8 288 yX8_digitSign ∈ BIG := big_mem (i := 1056) (by decide +kernel) (by decide +kernel)
theorem W1057 : Cond.static yX8_digitSign ∈ BIG := big_mem (i := 1057) (by decide +kernel) (by decide +kernel)
theorem W1058 : Cond.code yX8_digitSign cX8_digitSign 1 (some .char) ∈ BIG := big_mem (i := 1058) (by decide +kernel) (by decide +kernel)
theorem W1063 : Cond.instanceMethod yX8_renderMask ∈ BIG := big_mem (i := 1063) (by decide +kernel) (by decide +kernel)
theorem W1064 : Cond.selects yX8_renderMask.cls yX8_renderMask yX8_renderMask ∈ BIG := big_mem (i := 1064) (by decide +kernel) (by decide +kernel)
theorem W1065 : Cond.code yX8_renderMask cX8_renderMask 4 (some .int) ∈ BIG := big_mem (i := 1065) (by decide +kernel) (by decide +kernel)
theorem W1070 : Cond.instanceMethod yX8_outputAt ∈ BIG := big_mem (i := 1070) (by decide +kernel) (by decide +kernel)
theorem W1071 : Cond.selects yX8_outputAt.cls yX8_outputAt yX8_outputAt ∈ BIG := big_mem (i := 1071) (by decide +kernel) (by decide +kernel)
theorem W1072 : Cond.code yX8_outputAt cX8_outputAt 2 (some .char) ∈ BIG := big_mem (i := 1072) (by decide +kernel) (by decide +kernel)
theorem W1073 : Cond.methodLink RX8 295 yX6_has ∈ BIG := big_mem (i := 1073) (by decide +kernel) (by decide +kernel)
theorem W1074 : Cond.instanceMethod yX6_has ∈ BIG := big_mem (i := 1074) (by decide +kernel) (by decide +kernel)
theorem W1075 : Cond.selects yX6_has.cls yX6_has yX6_has ∈ BIG := big_mem (i := 1075) (by decide +kernel) (by decide +kernel)
theorem W1076 : Cond.code yX6_has cX6_has 2 (some .boolean) ∈ BIG := big_mem (i := 1076) (by decide +kernel) (by decide +kernel)
theorem W1078 : Cond.methodLink RX8 300 yX6_signAt ∈ BIG := big_mem (i := 1078) (by decide +kernel) (by decide +kernel)
theorem W1079 : Cond.instanceMethod yX6_signAt ∈ BIG := big_mem (i := 1079) (by decide +kernel) (by decide +kernel)
theorem W1080 : Cond.selects yX6_signAt.cls yX6_signAt yX6_signAt ∈ BIG := big_mem (i := 1080) (by decide +kernel) (by decide +kernel)
theorem W1081 : Cond.code yX6_signAt cX6_signAt 2 (some .char) ∈ BIG := big_mem (i := 1081) (by decide +kernel) (by decide +kernel)
theorem W1086 : Cond.instanceMethod yX8_type ∈ BIG := big_mem (i := 1086) (by decide +kernel) (by decide +kernel)
theorem W1087 : Cond.selects yX8_type.cls yX8_type yX8_type ∈ BIG := big_mem (i := 1087) (by decide +kernel) (by decide +kernel)
theorem W1088 : Cond.code yX8_type cX8_type 2 (some .int) ∈ BIG := big_mem (i := 1088) (by decide +kernel) (by decide +kernel)
theorem W1090 : Cond.methodLink RX8 308 yX6_isFull ∈ BIG := big_mem (i := 1090) (by decide +kernel) (by decide +kernel)
theorem W1091 : Cond.instanceMethod yX6_isFull ∈ BIG := big_mem (i := 1091) (by decide +kernel) (by decide +kernel)
theorem W1092 : Cond.selects yX6_isFull.cls yX6_isFull yX6_isFull ∈ BIG := big_mem (i := 1092) (by decide +kernel) (by decide +kernel)
theorem W1093 : Cond.code yX6_isFull cX6_isFull 1 (some .boolean) ∈ BIG := big_mem (i := 1093) (by decide +kernel) (by decide +kernel)
theorem W1130 : Cond.methodLink RX3 86 yX6_signAt ∈ BIG := big_mem (i := 1130) (by decide +kernel) (by decide +kernel)
theorem W1171 : Cond.instanceMethod yX1_begin ∈ BIG := big_mem (i := 1171) (by decide +kernel) (by decide +kernel)
theorem W1172 : Cond.selects yX1_begin.cls yX1_begin yX1_begin ∈ BIG := big_mem (i := 1172) (by decide +kernel) (by decide +kernel)
theorem W1173 : Cond.code yX1_begin cX1_begin 2 none ∈ BIG := big_mem (i := 1173) (by decide +kernel) (by decide +kernel)
theorem W1175 : Cond.instanceMethod yX3_readPart ∈ BIG := big_mem (i := 1175) (by decide +kernel) (by decide +kernel)
theorem W1176 : Cond.selects yX3_readPart.cls yX3_readPart yX3_readPart ∈ BIG := big_mem (i := 1176) (by decide +kernel) (by decide +kernel)
theorem W1177 : Cond.code yX3_readPart cX3_readPart 3 (some .boolean) ∈ BIG := big_mem (i := 1177) (by decide +kernel) (by decide +kernel)
theorem W1178 : Cond.methodLink RX3 89 yX3_readKind ∈ BIG := big_mem (i := 1178) (by decide +kernel) (by decide +kernel)
theorem W1179 : Cond.instanceMethod yX3_readKind ∈ BIG := big_mem (i := 1179) (by decide +kernel) (by decide +kernel)
theorem W1180 : Cond.selects yX3_readKind.cls yX3_readKind yX3_readKind ∈ BIG := big_mem (i := 1180) (by decide +kernel) (by decide +kernel)
theorem W1181 : Cond.code yX3_readKind cX3_readKind 3 (some .boolean) ∈ BIG := big_mem (i := 1181) (by decide +kernel) (by decide +kernel)
theorem W1183 : Cond.methodLink RX3 102 yX1_put ∈ BIG := big_mem (i := 1183) (by decide +kernel) (by decide +kernel)
theorem W1184 : Cond.instanceMethod yX1_put ∈ BIG := big_mem (i := 1184) (by decide +kernel) (by decide +kernel)
theorem W1185 : Cond.selects yX1_put.cls yX1_put yX1_put ∈ BIG := big_mem (i := 1185) (by decide +kernel) (by decide +kernel)
theorem W1186 : Cond.code yX1_put cX1_put 2 none ∈ BIG := big_mem (i := 1186) (by decide +kernel) (by decide +kernel)
theorem W1187 : Cond.methodLink RX3 93 yX3_readDigit ∈ BIG := big_mem (i := 1187) (by decide +kernel) (by decide +kernel)
theorem W1188 : Cond.instanceMethod yX3_readDigit ∈ BIG := big_mem (i := 1188) (by decide +kernel) (by decide +kernel)
theorem W1189 : Cond.selects yX3_readDigit.cls yX3_readDigit yX3_readDigit ∈ BIG := big_mem (i := 1189) (by decide +kernel) (by decide +kernel)
theorem W1190 : Cond.code yX3_readDigit cX3_readDigit 3 (some .boolean) ∈ BIG := big_mem (i := 1190) (by decide +kernel) (by decide +kernel)
theorem W1191 : Cond.methodLink RX3 110 yX3_takeDigit ∈ BIG := big_mem (i := 1191) (by decide +kernel) (by decide +kernel)
theorem W1192 : Cond.instanceMethod yX3_takeDigit ∈ BIG := big_mem (i := 1192) (by decide +kernel) (by decide +kernel)
theorem W1193 : Cond.selects yX3_takeDigit.cls yX3_takeDigit yX3_takeDigit ∈ BIG := big_mem (i := 1193) (by decide +kernel) (by decide +kernel)
theorem W1194 : Cond.code yX3_takeDigit cX3_takeDigit 2 (some .int) ∈ BIG := big_mem (i := 1194) (by decide +kernel) (by decide +kernel)
theorem W1195 : Cond.methodLink RX3 96 yX3_readNumber ∈ BIG := big_mem (i := 1195) (by decide +kernel) (by decide +kernel)
theorem W1196 : Cond.instanceMethod yX3_readNumber ∈ BIG := big_mem (i := 1196) (by decide +kernel) (by decide +kernel)
theorem W1197 : Cond.selects yX3_readNumber.cls yX3_readNumber yX3_readNumber ∈ BIG := big_mem (i := 1197) (by decide +kernel) (by decide +kernel)
theorem W1198 : Cond.code yX3_readNumber cX3_readNumber 4 (some .boolean) ∈ BIG := big_mem (i := 1198) (by decide +kernel) (by decide +kernel)
theorem W1199 : Cond.methodLink RX3 99 yX3_readSign ∈ BIG := big_mem (i := 1199) (by decide +kernel) (by decide +kernel)
theorem W1200 : Cond.instanceMethod yX3_readSign ∈ BIG := big_mem (i := 1200) (by decide +kernel) (by decide +kernel)
theorem W1201 : Cond.selects yX3_readSign.cls yX3_readSign yX3_readSign ∈ BIG := big_mem (i := 1201) (by decide +kernel) (by decide +kernel)
theorem W1202 : Cond.code yX3_readSign cX3_readSign 3 (some .boolean) ∈ BIG := big_mem (i := 1202) (by decide +kernel) (by decide +kernel)
theorem W1203 : Cond.methodLink RX3 39 yX3_take ∈ BIG := big_mem (i := 1203) (by decide +kernel) (by decide +kernel)
theorem W1204 : Cond.instanceMethod yX3_take ∈ BIG := big_mem (i := 1204) (by decide +kernel) (by decide +kernel)
theorem W1205 : Cond.selects yX3_take.cls yX3_take yX3_take ∈ BIG := big_mem (i := 1205) (by decide +kernel) (by decide +kernel)
theorem W1206 : Cond.code yX3_take cX3_take 2 (some .boolean) ∈ BIG := big_mem (i := 1206) (by decide +kernel) (by decide +kernel)
theorem W1213 : Cond.instanceMethod yX1_valueAt ∈ BIG := big_mem (i := 1213) (by decide +kernel) (by decide +kernel)
theorem W1214 : Cond.selects yX1_valueAt.cls yX1_valueAt yX1_valueAt ∈ BIG := big_mem (i := 1214) (by decide +kernel) (by decide +kernel)
theorem W1215 : Cond.code yX1_valueAt cX1_valueAt 2 (some .int) ∈ BIG := big_mem (i := 1215) (by decide +kernel) (by decide +kernel)
theorem W1225 : Cond.instanceMethod yX2_putBack ∈ BIG := big_mem (i := 1225) (by decide +kernel) (by decide +kernel)
theorem W1226 : Cond.selects yX2_putBack.cls yX2_putBack yX2_putBack ∈ BIG := big_mem (i := 1226) (by decide +kernel) (by decide +kernel)
theorem W1227 : Cond.code yX2_putBack cX2_putBack 2 none ∈ BIG := big_mem (i := 1227) (by decide +kernel) (by decide +kernel)
theorem W1233 : Cond.instanceMethod yX8_errorPosition ∈ BIG := big_mem (i := 1233) (by decide +kernel) (by decide +kernel)
theorem W1234 : Cond.selects yX8_errorPosition.cls yX8_errorPosition yX8_errorPosition ∈ BIG := big_mem (i := 1234) (by decide +kernel) (by decide +kernel)
theorem W1235 : Cond.code yX8_errorPosition cX8_errorPosition 1 (some .int) ∈ BIG := big_mem (i := 1235) (by decide +kernel) (by decide +kernel)
theorem W1241 : Cond.instanceMethod yX8_failedCommand ∈ BIG := big_mem (i := 1241) (by decide +kernel) (by decide +kernel)
theorem W1242 : Cond.selects yX8_failedCommand.cls yX8_failedCommand yX8_failedCommand ∈ BIG := big_mem (i := 1242) (by decide +kernel) (by decide +kernel)
theorem W1243 : Cond.code yX8_failedCommand cX8_failedCommand 1 (some .int) ∈ BIG := big_mem (i := 1243) (by decide +kernel) (by decide +kernel)
theorem W1249 : Cond.instanceMethod yX8_undo ∈ BIG := big_mem (i := 1249) (by decide +kernel) (by decide +kernel)
theorem W1250 : Cond.selects yX8_undo.cls yX8_undo yX8_undo ∈ BIG := big_mem (i := 1250) (by decide +kernel) (by decide +kernel)
theorem W1251 : Cond.code yX8_undo cX8_undo 1 (some .int) ∈ BIG := big_mem (i := 1251) (by decide +kernel) (by decide +kernel)
theorem W1253 : Cond.methodLink RX8 348 yX2_stepBack ∈ BIG := big_mem (i := 1253) (by decide +kernel) (by decide +kernel)
theorem W1254 : Cond.instanceMethod yX2_stepBack ∈ BIG := big_mem (i := 1254) (by decide +kernel) (by decide +kernel)
theorem W1255 : Cond.selects yX2_stepBack.cls yX2_stepBack yX2_stepBack ∈ BIG := big_mem (i := 1255) (by decide +kernel) (by decide +kernel)
theorem W1256 : Cond.code yX2_stepBack cX2_stepBack 2 none ∈ BIG := big_mem (i := 1256) (by decide +kernel) (by decide +kernel)
theorem W1257 : Cond.methodLink RX2 35 yX2_putBack ∈ BIG := big_mem (i := 1257) (by decide +kernel) (by decide +kernel)
theorem W1262 : Cond.instanceMethod yX8_restore ∈ BIG := big_mem (i := 1262) (by decide +kernel) (by decide +kernel)
theorem W1263 : Cond.selects yX8_restore.cls yX8_restore yX8_restore ∈ BIG := big_mem (i := 1263) (by decide +kernel) (by decide +kernel)
theorem W1264 : Cond.code yX8_restore cX8_restore 1 (some .int) ∈ BIG := big_mem (i := 1264) (by decide +kernel) (by decide +kernel)
theorem W1266 : Cond.methodLink RX8 353 yX2_forget ∈ BIG := big_mem (i := 1266) (by decide +kernel) (by decide +kernel)
theorem W1267 : Cond.instanceMethod yX2_forget ∈ BIG := big_mem (i := 1267) (by decide +kernel) (by decide +kernel)
theorem W1268 : Cond.selects yX2_forget.cls yX2_forget yX2_forget ∈ BIG := big_mem (i := 1268) (by decide +kernel) (by decide +kernel)
theorem W1269 : Cond.code yX2_forget cX2_forget 1 none ∈ BIG := big_mem (i := 1269) (by decide +kernel) (by decide +kernel)
theorem W1271 : Cond.instanceMethod yX9_thrown ∈ BIG := big_mem (i := 1271) (by decide +kernel) (by decide +kernel)
theorem W1272 : Cond.selects yX9_thrown.cls yX9_thrown yX9_thrown ∈ BIG := big_mem (i := 1272) (by decide +kernel) (by decide +kernel)
theorem W1273 : Cond.code yX9_thrown cX9_thrown 1 (some .int) ∈ BIG := big_mem (i := 1273) (by decide +kernel) (by decide +kernel)
theorem W1280 : Cond.fieldLink RX9 1 (TX9 0).1 (TX9 0).2.1 (TX9 0).2.2.1 ∈ BIG := big_mem (i := 1280) (by decide +kernel) (by decide +kernel)
theorem W1281 : Cond.fieldLink RX9 13 (TX9 1).1 (TX9 1).2.1 (TX9 1).2.2.1 ∈ BIG := big_mem (i := 1281) (by decide +kernel) (by decide +kernel)
theorem W1282 : Cond.fieldLink RX9 17 (TX9 2).1 (TX9 2).2.1 (TX9 2).2.2.1 ∈ BIG := big_mem (i := 1282) (by decide +kernel) (by decide +kernel)
theorem W1283 : Cond.fieldLink RX9 20 (TX9 3).1 (TX9 3).2.1 (TX9 3).2.2.1 ∈ BIG := big_mem (i := 1283) (by decide +kernel) (by decide +kernel)
theorem W1284 : Cond.fieldLink RX9 23 (TX9 4).1 (TX9 4).2.1 (TX9 4).2.2.1 ∈ BIG := big_mem (i := 1284) (by decide +kernel) (by decide +kernel)
theorem W1285 : Cond.fieldLink RX9 26 (TX9 5).1 (TX9 5).2.1 (TX9 5).2.2.1 ∈ BIG := big_mem (i := 1285) (by decide +kernel) (by decide +kernel)
theorem W1286 : Cond.fieldLink RX9 45 (TX9 6).1 (TX9 6).2.1 (TX9 6).2.2.1 ∈ BIG := big_mem (i := 1286) (by decide +kernel) (by decide +kernel)
theorem W1287 : Cond.fieldLink RX9 48 (TX9 7).1 (TX9 7).2.1 (TX9 7).2.2.1 ∈ BIG := big_mem (i := 1287) (by decide +kernel) (by decide +kernel)
theorem W1288 : Cond.fieldLink RX9 287 (TX9 8).1 (TX9 8).2.1 (TX9 8).2.2.1 ∈ BIG := big_mem (i := 1288) (by decide +kernel) (by decide +kernel)
theorem W1289 : Cond.fieldLink RX9 29 (TX9 9).1 (TX9 9).2.1 (TX9 9).2.2.1 ∈ BIG := big_mem (i := 1289) (by decide +kernel) (by decide +kernel)
theorem W1290 : Cond.fieldLink RX9 214 (TX9 10).1 (TX9 10).2.1 (TX9 10).2.2.1 ∈ BIG := big_mem (i := 1290) (by decide +kernel) (by decide +kernel)
theorem W1291 : Cond.fieldLink RX9 33 (TX9 11).1 (TX9 11).2.1 (TX9 11).2.2.1 ∈ BIG := big_mem (i := 1291) (by decide +kernel) (by decide +kernel)
theorem W1292 : Cond.fieldLink RX9 220 (TX9 12).1 (TX9 12).2.1 (TX9 12).2.2.1 ∈ BIG := big_mem (i := 1292) (by decide +kernel) (by decide +kernel)
theorem W1293 : Cond.fieldLink RX9 223 (TX9 13).1 (TX9 13).2.1 (TX9 13).2.2.1 ∈ BIG := big_mem (i := 1293) (by decide +kernel) (by decide +kernel)
theorem W1294 : Cond.fieldLink RX9 36 (TX9 14).1 (TX9 14).2.1 (TX9 14).2.2.1 ∈ BIG := big_mem (i := 1294) (by decide +kernel) (by decide +kernel)
theorem W1295 : Cond.fieldLink RX9 39 (TX9 15).1 (TX9 15).2.1 (TX9 15).2.2.1 ∈ BIG := big_mem (i := 1295) (by decide +kernel) (by decide +kernel)
theorem W1296 : Cond.fieldLink RX9 42 (TX9 16).1 (TX9 16).2.1 (TX9 16).2.2.1 ∈ BIG := big_mem (i := 1296) (by decide +kernel) (by decide +kernel)
theorem W1297 : Cond.fieldLink RX9 238 (TX9 17).1 (TX9 17).2.1 (TX9 17).2.2.1 ∈ BIG := big_mem (i := 1297) (by decide +kernel) (by decide +kernel)
theorem W1298 : Cond.fieldLink RX9 269 (TX9 18).1 (TX9 18).2.1 (TX9 18).2.2.1 ∈ BIG := big_mem (i := 1298) (by decide +kernel) (by decide +kernel)
theorem W1339 : Cond.instanceMethod yX9_addSection ∈ BIG := big_mem (i := 1339) (by decide +kernel) (by decide +kernel)
theorem W1340 : Cond.selects yX9_addSection.cls yX9_addSection yX9_addSection ∈ BIG := big_mem (i := 1340) (by decide +kernel) (by decide +kernel)
theorem W1341 : Cond.code yX9_addSection cX9_addSection 5 (some .int) ∈ BIG := big_mem (i := 1341) (by decide +kernel) (by decide +kernel)
theorem W1342 : Cond.methodLink RX9 84 yX9_notAdd ∈ BIG := big_mem (i := 1342) (by decide +kernel) (by decide +kernel)
theorem W1344 : Cond.instanceMethod yX9_notAdd ∈ BIG := big_mem (i := 1344) (by decide +kernel) (by decide +kernel)
theorem W1345 : Cond.code yX9_notAdd cX9_notAdd 4 (some .int) ∈ BIG := big_mem (i := 1345) (by decide +kernel) (by decide +kernel)
theorem W1346 : Cond.methodLink RX9 80 yX9_kindOf ∈ BIG := big_mem (i := 1346) (by decide +kernel) (by decide +kernel)
theorem W1347 : Cond.static yX9_kindOf ∈ BIG := big_mem (i := 1347) (by decide +kernel) (by decide +kernel)
theorem W1348 : Cond.code yX9_kindOf cX9_kindOf 1 (some .int) ∈ BIG := big_mem (i := 1348) (by decide +kernel) (by decide +kernel)
theorem W1349 : Cond.methodLink RX9 57 yX9_isBetween ∈ BIG := big_mem (i := 1349) (by decide +kernel) (by decide +kernel)
theorem W1350 : Cond.static yX9_isBetween ∈ BIG := big_mem (i := 1350) (by decide +kernel) (by decide +kernel)
theorem W1351 : Cond.code yX9_isBetween cX9_isBetween 3 (some .boolean) ∈ BIG := big_mem (i := 1351) (by decide +kernel) (by decide +kernel)
theorem W1352 : Cond.methodLink RX9 87 yX9_fails ∈ BIG := big_mem (i := 1352) (by decide +kernel) (by decide +kernel)
theorem W1354 : Cond.instanceMethod yX9_fails ∈ BIG := big_mem (i := 1354) (by decide +kernel) (by decide +kernel)
theorem W1355 : Cond.code yX9_fails cX9_fails 2 (some .int) ∈ BIG := big_mem (i := 1355) (by decide +kernel) (by decide +kernel)
theorem W1356 : Cond.methodLink RX9 90 yX9_remembers ∈ BIG := big_mem (i := 1356) (by decide +kernel) (by decide +kernel)
theorem W1358 : Cond.instanceMethod yX9_remembers ∈ BIG := big_mem (i := 1358) (by decide +kernel) (by decide +kernel)
theorem W1359 : Cond.code yX9_remembers cX9_remembers 1 none ∈ BIG := big_mem (i := 1359) (by decide +kernel) (by decide +kernel)
theorem W1360 : Cond.methodLink RX9 51 yX9_copies ∈ BIG := big_mem (i := 1360) (by decide +kernel) (by decide +kernel)
theorem W1362 : Cond.instanceMethod yX9_copies ∈ BIG := big_mem (i := 1362) (by decide +kernel) (by decide +kernel)
theorem W1363 : Cond.code yX9_copies cX9_copies 2 none ∈ BIG := big_mem (i := 1363) (by decide +kernel) (by decide +kernel)
theorem W1364 : Cond.methodLink RX9 54 yX9_keeps ∈ BIG := big_mem (i := 1364) (by decide +kernel) (by decide +kernel)
theorem W1366 : Cond.instanceMethod yX9_keeps ∈ BIG := big_mem (i := 1366) (by decide +kernel) (by decide +kernel)
theorem W1367 : Cond.code yX9_keeps cX9_keeps 3 none ∈ BIG := big_mem (i := 1367) (by decide +kernel) (by decide +kernel)
theorem W1368 : Cond.methodLink RX9 93 yX9_addsSection ∈ BIG := big_mem (i := 1368) (by decide +kernel) (by decide +kernel)
theorem W1370 : Cond.instanceMethod yX9_addsSection ∈ BIG := big_mem (i := 1370) (by decide +kernel) (by decide +kernel)
theorem W1371 : Cond.code yX9_addsSection cX9_addsSection 6 (some .int) ∈ BIG := big_mem (i := 1371) (by decide +kernel) (by decide +kernel)
theorem W1372 : Cond.methodLink RX9 65 yX9_puts ∈ BIG := big_mem (i := 1372) (by decide +kernel) (by decide +kernel)
theorem W1374 : Cond.instanceMethod yX9_puts ∈ BIG := big_mem (i := 1374) (by decide +kernel) (by decide +kernel)
theorem W1375 : Cond.code yX9_puts cX9_puts 4 none ∈ BIG := big_mem (i := 1375) (by decide +kernel) (by decide +kernel)
theorem W1377 : Cond.instanceMethod yX9_removeSection ∈ BIG := big_mem (i := 1377) (by decide +kernel) (by decide +kernel)
theorem W1378 : Cond.selects yX9_removeSection.cls yX9_removeSection yX9_removeSection ∈ BIG := big_mem (i := 1378) (by decide +kernel) (by decide +kernel)
theorem W1379 : Cond.code yX9_removeSection cX9_removeSection 2 (some .int) ∈ BIG := big_mem (i := 1379) (by decide +kernel) (by decide +kernel)
theorem W1380 : Cond.methodLink RX9 69 yX9_isSection ∈ BIG := big_mem (i := 1380) (by decide +kernel) (by decide +kernel)
theorem W1382 : Cond.instanceMethod yX9_isSection ∈ BIG := big_mem (i := 1382) (by decide +kernel) (by decide +kernel)
theorem W1383 : Cond.code yX9_isSection cX9_isSection 2 (some .boolean) ∈ BIG := big_mem (i := 1383) (by decide +kernel) (by decide +kernel)
theorem W1384 : Cond.methodLink RX9 96 yX9_removesSection ∈ BIG := big_mem (i := 1384) (by decide +kernel) (by decide +kernel)
theorem W1386 : Cond.instanceMethod yX9_removesSection ∈ BIG := big_mem (i := 1386) (by decide +kernel) (by decide +kernel)
theorem W1387 : Cond.code yX9_removesSection cX9_removesSection 4 (some .int) ∈ BIG := big_mem (i := 1387) (by decide +kernel) (by decide +kernel)
theorem W1389 : Cond.instanceMethod yX9_setNote ∈ BIG := big_mem (i := 1389) (by decide +kernel) (by decide +kernel)
theorem W1390 : Cond.selects yX9_setNote.cls yX9_setNote yX9_setNote ∈ BIG := big_mem (i := 1390) (by decide +kernel) (by decide +kernel)
theorem W1391 : Cond.code yX9_setNote cX9_setNote 6 (some .int) ∈ BIG := big_mem (i := 1391) (by decide +kernel) (by decide +kernel)
theorem W1392 : Cond.methodLink RX9 106 yX9_notNote ∈ BIG := big_mem (i := 1392) (by decide +kernel) (by decide +kernel)
theorem W1394 : Cond.instanceMethod yX9_notNote ∈ BIG := big_mem (i := 1394) (by decide +kernel) (by decide +kernel)
theorem W1395 : Cond.code yX9_notNote cX9_notNote 5 (some .int) ∈ BIG := big_mem (i := 1395) (by decide +kernel) (by decide +kernel)
theorem W1396 : Cond.methodLink RX9 99 yX9_isCell ∈ BIG := big_mem (i := 1396) (by decide +kernel) (by decide +kernel)
theorem W1398 : Cond.instanceMethod yX9_isCell ∈ BIG := big_mem (i := 1398) (by decide +kernel) (by decide +kernel)
theorem W1399 : Cond.code yX9_isCell cX9_isCell 4 (some .boolean) ∈ BIG := big_mem (i := 1399) (by decide +kernel) (by decide +kernel)
theorem W1400 : Cond.methodLink RX9 61 yX9_of ∈ BIG := big_mem (i := 1400) (by decide +kernel) (by decide +kernel)
theorem W1402 : Cond.instanceMethod yX9_of ∈ BIG := big_mem (i := 1402) (by decide +kernel) (by decide +kernel)
theorem W1403 : Cond.code yX9_of cX9_of 3 (some .int) ∈ BIG := big_mem (i := 1403) (by decide +kernel) (by decide +kernel)
theorem W1404 : Cond.methodLink RX9 110 yX9_setsNote ∈ BIG := big_mem (i := 1404) (by decide +kernel) (by decide +kernel)
theorem W1406 : Cond.instanceMethod yX9_setsNote ∈ BIG := big_mem (i := 1406) (by decide +kernel) (by decide +kernel)
theorem W1407 : Cond.code yX9_setsNote cX9_setsNote 6 (some .int) ∈ BIG := big_mem (i := 1407) (by decide +kernel) (by decide +kernel)
theorem W1408 : Cond.methodLink RX9 73 yX9_noteAt ∈ BIG := big_mem (i := 1408) (by decide +kernel) (by decide +kernel)
theorem W1410 : Cond.instanceMethod yX9_noteAt ∈ BIG := big_mem (i := 1410) (by decide +kernel) (by decide +kernel)
theorem W1411 : Cond.code yX9_noteAt cX9_noteAt 4 (some .int) ∈ BIG := big_mem (i := 1411) (by decide +kernel) (by decide +kernel)
theorem W1412 : Cond.methodLink RX9 102 yX9_putsNote ∈ BIG := big_mem (i := 1412) (by decide +kernel) (by decide +kernel)
theorem W1414 : Cond.instanceMethod yX9_putsNote ∈ BIG := big_mem (i := 1414) (by decide +kernel) (by decide +kernel)
theorem W1415 : Cond.code yX9_putsNote cX9_putsNote 5 none ∈ BIG := big_mem (i := 1415) (by decide +kernel) (by decide +kernel)
theorem W1417 : Cond.instanceMethod yX9_setMasked ∈ BIG := big_mem (i := 1417) (by decide +kernel) (by decide +kernel)
theorem W1418 : Cond.selects yX9_setMasked.cls yX9_setMasked yX9_setMasked ∈ BIG := big_mem (i := 1418) (by decide +kernel) (by decide +kernel)
theorem W1419 : Cond.code yX9_setMasked cX9_setMasked 5 (some .boolean) ∈ BIG := big_mem (i := 1419) (by decide +kernel) (by decide +kernel)
theorem W1420 : Cond.methodLink RX9 117 yX9_notMask ∈ BIG := big_mem (i := 1420) (by decide +kernel) (by decide +kernel)
theorem W1422 : Cond.instanceMethod yX9_notMask ∈ BIG := big_mem (i := 1422) (by decide +kernel) (by decide +kernel)
theorem W1423 : Cond.code yX9_notMask cX9_notMask 3 (some .int) ∈ BIG := big_mem (i := 1423) (by decide +kernel) (by decide +kernel)
theorem W1424 : Cond.methodLink RX9 120 yX9_setsMasked ∈ BIG := big_mem (i := 1424) (by decide +kernel) (by decide +kernel)
theorem W1426 : Cond.instanceMethod yX9_setsMasked ∈ BIG := big_mem (i := 1426) (by decide +kernel) (by decide +kernel)
theorem W1427 : Cond.code yX9_setsMasked cX9_setsMasked 6 (some .int) ∈ BIG := big_mem (i := 1427) (by decide +kernel) (by decide +kernel)
theorem W1428 : Cond.methodLink RX9 113 yX9_isMaskedAt ∈ BIG := big_mem (i := 1428) (by decide +kernel) (by decide +kernel)
theorem W1430 : Cond.instanceMethod yX9_isMaskedAt ∈ BIG := big_mem (i := 1430) (by decide +kernel) (by decide +kernel)
theorem W1431 : Cond.code yX9_isMaskedAt cX9_isMaskedAt 3 (some .boolean) ∈ BIG := big_mem (i := 1431) (by decide +kernel) (by decide +kernel)
theorem W1433 : Cond.instanceMethod yX9_transpose ∈ BIG := big_mem (i := 1433) (by decide +kernel) (by decide +kernel)
theorem W1434 : Cond.selects yX9_transpose.cls yX9_transpose yX9_transpose ∈ BIG := big_mem (i := 1434) (by decide +kernel) (by decide +kernel)
theorem W1435 : Cond.code yX9_transpose cX9_transpose 2 (some .int) ∈ BIG := big_mem (i := 1435) (by decide +kernel) (by decide +kernel)
theorem W1436 : Cond.methodLink RX9 123 yX9_transposes ∈ BIG := big_mem (i := 1436) (by decide +kernel) (by decide +kernel)
theorem W1438 : Cond.instanceMethod yX9_transposes ∈ BIG := big_mem (i := 1438) (by decide +kernel) (by decide +kernel)
theorem W1439 : Cond.code yX9_transposes cX9_transposes 5 (some .int) ∈ BIG := big_mem (i := 1439) (by decide +kernel) (by decide +kernel)
theorem W1441 : Cond.instanceMethod yX9_reverse ∈ BIG := big_mem (i := 1441) (by decide +kernel) (by decide +kernel)
theorem W1442 : Cond.selects yX9_reverse.cls yX9_reverse yX9_reverse ∈ BIG := big_mem (i := 1442) (by decide +kernel) (by decide +kernel)
theorem W1443 : Cond.code yX9_reverse cX9_reverse 2 (some .int) ∈ BIG := big_mem (i := 1443) (by decide +kernel) (by decide +kernel)
theorem W1444 : Cond.methodLink RX9 126 yX9_reverses ∈ BIG := big_mem (i := 1444) (by decide +kernel) (by decide +kernel)
theorem W1446 : Cond.instanceMethod yX9_reverses ∈ BIG := big_mem (i := 1446) (by decide +kernel) (by decide +kernel)
theorem W1447 : Cond.code yX9_reverses cX9_reverses 8 (some .int) ∈ BIG := big_mem (i := 1447) (by decide +kernel) (by decide +kernel)
theorem W1449 : Cond.instanceMethod yX9_raise ∈ BIG := big_mem (i := 1449) (by decide +kernel) (by decide +kernel)
theorem W1450 : Cond.selects yX9_raise.cls yX9_raise yX9_raise ∈ BIG := big_mem (i := 1450) (by decide +kernel) (by decide +kernel)
theorem W1451 : Cond.code yX9_raise cX9_raise 4 (some .int) ∈ BIG := big_mem (i := 1451) (by decide +kernel) (by decide +kernel)
theorem W1452 : Cond.methodLink RX9 129 yX9_notRaise ∈ BIG := big_mem (i := 1452) (by decide +kernel) (by decide +kernel)
theorem W1454 : Cond.instanceMethod yX9_notRaise ∈ BIG := big_mem (i := 1454) (by decide +kernel) (by decide +kernel)
theorem W1455 : Cond.code yX9_notRaise cX9_notRaise 4 (some .int) ∈ BIG := big_mem (i := 1455) (by decide +kernel) (by decide +kernel)
theorem W1456 : Cond.methodLink RX9 132 yX9_raises ∈ BIG := big_mem (i := 1456) (by decide +kernel) (by decide +kernel)
theorem W1458 : Cond.instanceMethod yX9_raises ∈ BIG := big_mem (i := 1458) (by decide +kernel) (by decide +kernel)
theorem W1459 : Cond.code yX9_raises cX9_raises 5 (some .int) ∈ BIG := big_mem (i := 1459) (by decide +kernel) (by decide +kernel)
theorem W1461 : Cond.instanceMethod yX9_setTempo ∈ BIG := big_mem (i := 1461) (by decide +kernel) (by decide +kernel)
theorem W1462 : Cond.selects yX9_setTempo.cls yX9_setTempo yX9_setTempo ∈ BIG := big_mem (i := 1462) (by decide +kernel) (by decide +kernel)
theorem W1463 : Cond.code yX9_setTempo cX9_setTempo 2 (some .int) ∈ BIG := big_mem (i := 1463) (by decide +kernel) (by decide +kernel)
theorem W1464 : Cond.methodLink RX9 135 yX9_notTempo ∈ BIG := big_mem (i := 1464) (by decide +kernel) (by decide +kernel)
theorem W1465 : Cond.static yX9_notTempo ∈ BIG := big_mem (i := 1465) (by decide +kernel) (by decide +kernel)
theorem W1466 : Cond.code yX9_notTempo cX9_notTempo 1 (some .int) ∈ BIG := big_mem (i := 1466) (by decide +kernel) (by decide +kernel)
theorem W1467 : Cond.methodLink RX9 138 yX9_sets ∈ BIG := big_mem (i := 1467) (by decide +kernel) (by decide +kernel)
theorem W1469 : Cond.instanceMethod yX9_sets ∈ BIG := big_mem (i := 1469) (by decide +kernel) (by decide +kernel)
theorem W1470 : Cond.code yX9_sets cX9_sets 4 (some .int) ∈ BIG := big_mem (i := 1470) (by decide +kernel) (by decide +kernel)
theorem W1472 : Cond.instanceMethod yX9_setLimit ∈ BIG := big_mem (i := 1472) (by decide +kernel) (by decide +kernel)
theorem W1473 : Cond.selects yX9_setLimit.cls yX9_setLimit yX9_setLimit ∈ BIG := big_mem (i := 1473) (by decide +kernel) (by decide +kernel)
theorem W1474 : Cond.code yX9_setLimit cX9_setLimit 2 (some .int) ∈ BIG := big_mem (i := 1474) (by decide +kernel) (by decide +kernel)
theorem W1475 : Cond.methodLink RX9 141 yX9_notLimit ∈ BIG := big_mem (i := 1475) (by decide +kernel) (by decide +kernel)
theorem W1476 : Cond.static yX9_notLimit ∈ BIG := big_mem (i := 1476) (by decide +kernel) (by decide +kernel)
theorem W1477 : Cond.code yX9_notLimit cX9_notLimit 1 (some .int) ∈ BIG := big_mem (i := 1477) (by decide +kernel) (by decide +kernel)
theorem W1479 : Cond.instanceMethod yX9_conductWave ∈ BIG := big_mem (i := 1479) (by decide +kernel) (by decide +kernel)
theorem W1480 : Cond.selects yX9_conductWave.cls yX9_conductWave yX9_conductWave ∈ BIG := big_mem (i := 1480) (by decide +kernel) (by decide +kernel)
theorem W1481 : Cond.code yX9_conductWave cX9_conductWave 1 (some .int) ∈ BIG := big_mem (i := 1481) (by decide +kernel) (by decide +kernel)
theorem W1482 : Cond.methodLink RX9 171 yX9_beatsTimes ∈ BIG := big_mem (i := 1482) (by decide +kernel) (by decide +kernel)
theorem W1484 : Cond.instanceMethod yX9_beatsTimes ∈ BIG := big_mem (i := 1484) (by decide +kernel) (by decide +kernel)
theorem W1485 : Cond.code yX9_beatsTimes cX9_beatsTimes 4 (some .int) ∈ BIG := big_mem (i := 1485) (by decide +kernel) (by decide +kernel)
theorem W1486 : Cond.methodLink RX9 167 yX9_beats ∈ BIG := big_mem (i := 1486) (by decide +kernel) (by decide +kernel)
theorem W1488 : Cond.instanceMethod yX9_beats ∈ BIG := big_mem (i := 1488) (by decide +kernel) (by decide +kernel)
theorem W1489 : Cond.code yX9_beats cX9_beats 6 (some .int) ∈ BIG := big_mem (i := 1489) (by decide +kernel) (by decide +kernel)
theorem W1490 : Cond.methodLink RX9 153 yX9_volumeNow ∈ BIG := big_mem (i := 1490) (by decide +kernel) (by decide +kernel)
theorem W1492 : Cond.instanceMethod yX9_volumeNow ∈ BIG := big_mem (i := 1492) (by decide +kernel) (by decide +kernel)
theorem W1493 : Cond.code yX9_volumeNow cX9_volumeNow 2 (some .int) ∈ BIG := big_mem (i := 1493) (by decide +kernel) (by decide +kernel)
theorem W1494 : Cond.methodLink RX9 147 yX9_plays ∈ BIG := big_mem (i := 1494) (by decide +kernel) (by decide +kernel)
theorem W1496 : Cond.instanceMethod yX9_plays ∈ BIG := big_mem (i := 1496) (by decide +kernel) (by decide +kernel)
theorem W1497 : Cond.code yX9_plays cX9_plays 2 (some .boolean) ∈ BIG := big_mem (i := 1497) (by decide +kernel) (by decide +kernel)
theorem W1498 : Cond.methodLink RX9 144 yX9_columnNow ∈ BIG := big_mem (i := 1498) (by decide +kernel) (by decide +kernel)
theorem W1500 : Cond.instanceMethod yX9_columnNow ∈ BIG := big_mem (i := 1500) (by decide +kernel) (by decide +kernel)
theorem W1501 : Cond.code yX9_columnNow cX9_columnNow 2 (some .int) ∈ BIG := big_mem (i := 1501) (by decide +kernel) (by decide +kernel)
theorem W1502 : Cond.methodLink RX9 150 yX9_volumeOfColumn ∈ BIG := big_mem (i := 1502) (by decide +kernel) (by decide +kernel)
theorem W1504 : Cond.instanceMethod yX9_volumeOfColumn ∈ BIG := big_mem (i := 1504) (by decide +kernel) (by decide +kernel)
theorem W1505 : Cond.code yX9_volumeOfColumn cX9_volumeOfColumn 5 (some .int) ∈ BIG := big_mem (i := 1505) (by decide +kernel) (by decide +kernel)
theorem W1506 : Cond.methodLink RX9 77 yX9_volumeOf ∈ BIG := big_mem (i := 1506) (by decide +kernel) (by decide +kernel)
theorem W1507 : Cond.static yX9_volumeOf ∈ BIG := big_mem (i := 1507) (by decide +kernel) (by decide +kernel)
theorem W1508 : Cond.code yX9_volumeOf cX9_volumeOf 2 (some .int) ∈ BIG := big_mem (i := 1508) (by decide +kernel) (by decide +kernel)
theorem W1509 : Cond.methodLink RX9 156 yX9_sounds ∈ BIG := big_mem (i := 1509) (by decide +kernel) (by decide +kernel)
theorem W1511 : Cond.instanceMethod yX9_sounds ∈ BIG := big_mem (i := 1511) (by decide +kernel) (by decide +kernel)
theorem W1512 : Cond.code yX9_sounds cX9_sounds 5 none ∈ BIG := big_mem (i := 1512) (by decide +kernel) (by decide +kernel)
theorem W1513 : Cond.methodLink RX9 160 yX9_tires ∈ BIG := big_mem (i := 1513) (by decide +kernel) (by decide +kernel)
theorem W1515 : Cond.instanceMethod yX9_tires ∈ BIG := big_mem (i := 1515) (by decide +kernel) (by decide +kernel)
theorem W1516 : Cond.code yX9_tires cX9_tires 2 none ∈ BIG := big_mem (i := 1516) (by decide +kernel) (by decide +kernel)
theorem W1517 : Cond.methodLink RX9 164 yX9_logs ∈ BIG := big_mem (i := 1517) (by decide +kernel) (by decide +kernel)
theorem W1519 : Cond.instanceMethod yX9_logs ∈ BIG := big_mem (i := 1519) (by decide +kernel) (by decide +kernel)
theorem W1520 : Cond.code yX9_logs cX9_logs 3 none ∈ BIG := big_mem (i := 1520) (by decide +kernel) (by decide +kernel)
theorem W1522 : Cond.instanceMethod yX9_conductBeats ∈ BIG := big_mem (i := 1522) (by decide +kernel) (by decide +kernel)
theorem W1523 : Cond.selects yX9_conductBeats.cls yX9_conductBeats yX9_conductBeats ∈ BIG := big_mem (i := 1523) (by decide +kernel) (by decide +kernel)
theorem W1524 : Cond.code yX9_conductBeats cX9_conductBeats 2 (some .int) ∈ BIG := big_mem (i := 1524) (by decide +kernel) (by decide +kernel)
theorem W1525 : Cond.methodLink RX9 174 yX9_notBeats ∈ BIG := big_mem (i := 1525) (by decide +kernel) (by decide +kernel)
theorem W1526 : Cond.static yX9_notBeats ∈ BIG := big_mem (i := 1526) (by decide +kernel) (by decide +kernel)
theorem W1527 : Cond.code yX9_notBeats cX9_notBeats 1 (some .int) ∈ BIG := big_mem (i := 1527) (by decide +kernel) (by decide +kernel)
theorem W1529 : Cond.instanceMethod yX9_beatCount ∈ BIG := big_mem (i := 1529) (by decide +kernel) (by decide +kernel)
theorem W1530 : Cond.selects yX9_beatCount.cls yX9_beatCount yX9_beatCount ∈ BIG := big_mem (i := 1530) (by decide +kernel) (by decide +kernel)
theorem W1531 : Cond.code yX9_beatCount cX9_beatCount 1 (some .int) ∈ BIG := big_mem (i := 1531) (by decide +kernel) (by decide +kernel)
theorem W1532 : Cond.methodLink RX9 177 yX9_asks ∈ BIG := big_mem (i := 1532) (by decide +kernel) (by decide +kernel)
theorem W1534 : Cond.instanceMethod yX9_asks ∈ BIG := big_mem (i := 1534) (by decide +kernel) (by decide +kernel)
theorem W1535 : Cond.code yX9_asks cX9_asks 2 (some .int) ∈ BIG := big_mem (i := 1535) (by decide +kernel) (by decide +kernel)
theorem W1537 : Cond.instanceMethod yX9_sectionCount ∈ BIG := big_mem (i := 1537) (by decide +kernel) (by decide +kernel)
theorem W1538 : Cond.selects yX9_sectionCount.cls yX9_sectionCount yX9_sectionCount ∈ BIG := big_mem (i := 1538) (by decide +kernel) (by decide +kernel)
theorem W1539 : Cond.code yX9_sectionCount cX9_sectionCount 1 (some .int) ∈ BIG := big_mem (i := 1539) (by decide +kernel) (by decide +kernel)
theorem W1541 : Cond.instanceMethod yX9_tempo ∈ BIG := big_mem (i := 1541) (by decide +kernel) (by decide +kernel)
theorem W1542 : Cond.selects yX9_tempo.cls yX9_tempo yX9_tempo ∈ BIG := big_mem (i := 1542) (by decide +kernel) (by decide +kernel)
theorem W1543 : Cond.code yX9_tempo cX9_tempo 1 (some .int) ∈ BIG := big_mem (i := 1543) (by decide +kernel) (by decide +kernel)
theorem W1545 : Cond.instanceMethod yX9_limit ∈ BIG := big_mem (i := 1545) (by decide +kernel) (by decide +kernel)
theorem W1546 : Cond.selects yX9_limit.cls yX9_limit yX9_limit ∈ BIG := big_mem (i := 1546) (by decide +kernel) (by decide +kernel)
theorem W1547 : Cond.code yX9_limit cX9_limit 1 (some .int) ∈ BIG := big_mem (i := 1547) (by decide +kernel) (by decide +kernel)
theorem W1549 : Cond.instanceMethod yX9_kind ∈ BIG := big_mem (i := 1549) (by decide +kernel) (by decide +kernel)
theorem W1550 : Cond.selects yX9_kind.cls yX9_kind yX9_kind ∈ BIG := big_mem (i := 1550) (by decide +kernel) (by decide +kernel)
theorem W1551 : Cond.code yX9_kind cX9_kind 3 (some .char) ∈ BIG := big_mem (i := 1551) (by decide +kernel) (by decide +kernel)
theorem W1552 : Cond.methodLink RX9 180 yX9_asksSection ∈ BIG := big_mem (i := 1552) (by decide +kernel) (by decide +kernel)
theorem W1554 : Cond.instanceMethod yX9_asksSection ∈ BIG := big_mem (i := 1554) (by decide +kernel) (by decide +kernel)
theorem W1555 : Cond.code yX9_asksSection cX9_asksSection 3 (some .int) ∈ BIG := big_mem (i := 1555) (by decide +kernel) (by decide +kernel)
theorem W1556 : Cond.methodLink RX9 183 yX9_letterOf ∈ BIG := big_mem (i := 1556) (by decide +kernel) (by decide +kernel)
theorem W1557 : Cond.static yX9_letterOf ∈ BIG := big_mem (i := 1557) (by decide +kernel) (by decide +kernel)
theorem W1558 : Cond.code yX9_letterOf cX9_letterOf 1 (some .char) ∈ BIG := big_mem (i := 1558) (by decide +kernel) (by decide +kernel)
theorem W1560 : Cond.instanceMethod yX9_rows ∈ BIG := big_mem (i := 1560) (by decide +kernel) (by decide +kernel)
theorem W1561 : Cond.selects yX9_rows.cls yX9_rows yX9_rows ∈ BIG := big_mem (i := 1561) (by decide +kernel) (by decide +kernel)
theorem W1562 : Cond.code yX9_rows cX9_rows 2 (some .int) ∈ BIG := big_mem (i := 1562) (by decide +kernel) (by decide +kernel)
theorem W1564 : Cond.instanceMethod yX9_columns ∈ BIG := big_mem (i := 1564) (by decide +kernel) (by decide +kernel)
theorem W1565 : Cond.selects yX9_columns.cls yX9_columns yX9_columns ∈ BIG := big_mem (i := 1565) (by decide +kernel) (by decide +kernel)
theorem W1566 : Cond.code yX9_columns cX9_columns 2 (some .int) ∈ BIG := big_mem (i := 1566) (by decide +kernel) (by decide +kernel)
theorem W1568 : Cond.instanceMethod yX9_note ∈ BIG := big_mem (i := 1568) (by decide +kernel) (by decide +kernel)
theorem W1569 : Cond.selects yX9_note.cls yX9_note yX9_note ∈ BIG := big_mem (i := 1569) (by decide +kernel) (by decide +kernel)
theorem W1570 : Cond.code yX9_note cX9_note 4 (some .int) ∈ BIG := big_mem (i := 1570) (by decide +kernel) (by decide +kernel)
theorem W1572 : Cond.instanceMethod yX9_isMasked ∈ BIG := big_mem (i := 1572) (by decide +kernel) (by decide +kernel)
theorem W1573 : Cond.selects yX9_isMasked.cls yX9_isMasked yX9_isMasked ∈ BIG := big_mem (i := 1573) (by decide +kernel) (by decide +kernel)
theorem W1574 : Cond.code yX9_isMasked cX9_isMasked 4 (some .boolean) ∈ BIG := big_mem (i := 1574) (by decide +kernel) (by decide +kernel)
theorem W1576 : Cond.instanceMethod yX9_fatigue ∈ BIG := big_mem (i := 1576) (by decide +kernel) (by decide +kernel)
theorem W1577 : Cond.selects yX9_fatigue.cls yX9_fatigue yX9_fatigue ∈ BIG := big_mem (i := 1577) (by decide +kernel) (by decide +kernel)
theorem W1578 : Cond.code yX9_fatigue cX9_fatigue 2 (some .int) ∈ BIG := big_mem (i := 1578) (by decide +kernel) (by decide +kernel)
theorem W1580 : Cond.instanceMethod yX9_restingBeats ∈ BIG := big_mem (i := 1580) (by decide +kernel) (by decide +kernel)
theorem W1581 : Cond.selects yX9_restingBeats.cls yX9_restingBeats yX9_restingBeats ∈ BIG := big_mem (i := 1581) (by decide +kernel) (by decide +kernel)
theorem W1582 : Cond.code yX9_restingBeats cX9_restingBeats 2 (some .int) ∈ BIG := big_mem (i := 1582) (by decide +kernel) (by decide +kernel)
theorem W1584 : Cond.instanceMethod yX9_isSymmetric ∈ BIG := big_mem (i := 1584) (by decide +kernel) (by decide +kernel)
theorem W1585 : Cond.selects yX9_isSymmetric.cls yX9_isSymmetric yX9_isSymmetric ∈ BIG := big_mem (i := 1585) (by decide +kernel) (by decide +kernel)
theorem W1586 : Cond.code yX9_isSymmetric cX9_isSymmetric 4 (some .boolean) ∈ BIG := big_mem (i := 1586) (by decide +kernel) (by decide +kernel)
theorem W1588 : Cond.instanceMethod yX9_areAlike ∈ BIG := big_mem (i := 1588) (by decide +kernel) (by decide +kernel)
theorem W1589 : Cond.selects yX9_areAlike.cls yX9_areAlike yX9_areAlike ∈ BIG := big_mem (i := 1589) (by decide +kernel) (by decide +kernel)
theorem W1590 : Cond.code yX9_areAlike cX9_areAlike 4 (some .boolean) ∈ BIG := big_mem (i := 1590) (by decide +kernel) (by decide +kernel)
theorem W1592 : Cond.instanceMethod yX9_noteVolume ∈ BIG := big_mem (i := 1592) (by decide +kernel) (by decide +kernel)
theorem W1593 : Cond.selects yX9_noteVolume.cls yX9_noteVolume yX9_noteVolume ∈ BIG := big_mem (i := 1593) (by decide +kernel) (by decide +kernel)
theorem W1594 : Cond.code yX9_noteVolume cX9_noteVolume 3 (some .int) ∈ BIG := big_mem (i := 1594) (by decide +kernel) (by decide +kernel)
theorem W1596 : Cond.instanceMethod yX9_columnVolume ∈ BIG := big_mem (i := 1596) (by decide +kernel) (by decide +kernel)
theorem W1597 : Cond.selects yX9_columnVolume.cls yX9_columnVolume yX9_columnVolume ∈ BIG := big_mem (i := 1597) (by decide +kernel) (by decide +kernel)
theorem W1598 : Cond.code yX9_columnVolume cX9_columnVolume 3 (some .int) ∈ BIG := big_mem (i := 1598) (by decide +kernel) (by decide +kernel)
theorem W1600 : Cond.instanceMethod yX9_columnVolumeByTransposing ∈ BIG := big_mem (i := 1600) (by decide +kernel) (by decide +kernel)
theorem W1601 : Cond.selects yX9_columnVolumeByTransposing.cls yX9_columnVolumeByTransposing yX9_columnVolumeByTransposing ∈ BIG := big_mem (i := 1601) (by decide +kernel) (by decide +kernel)
theorem W1602 : Cond.code yX9_columnVolumeByTransposing cX9_columnVolumeByTransposing 3 (some .int) ∈ BIG := big_mem (i := 1602) (by decide +kernel) (by decide +kernel)
theorem W1603 : Cond.methodLink RX9 187 yX9_columnVolume ∈ BIG := big_mem (i := 1603) (by decide +kernel) (by decide +kernel)
theorem W1605 : Cond.instanceMethod yX9_nextVolume ∈ BIG := big_mem (i := 1605) (by decide +kernel) (by decide +kernel)
theorem W1606 : Cond.selects yX9_nextVolume.cls yX9_nextVolume yX9_nextVolume ∈ BIG := big_mem (i := 1606) (by decide +kernel) (by decide +kernel)
theorem W1607 : Cond.code yX9_nextVolume cX9_nextVolume 2 (some .int) ∈ BIG := big_mem (i := 1607) (by decide +kernel) (by decide +kernel)
theorem W1609 : Cond.instanceMethod yX9_nextTotal ∈ BIG := big_mem (i := 1609) (by decide +kernel) (by decide +kernel)
theorem W1610 : Cond.selects yX9_nextTotal.cls yX9_nextTotal yX9_nextTotal ∈ BIG := big_mem (i := 1610) (by decide +kernel) (by decide +kernel)
theorem W1611 : Cond.code yX9_nextTotal cX9_nextTotal 3 (some .int) ∈ BIG := big_mem (i := 1611) (by decide +kernel) (by decide +kernel)
theorem W1613 : Cond.instanceMethod yX9_period ∈ BIG := big_mem (i := 1613) (by decide +kernel) (by decide +kernel)
theorem W1614 : Cond.selects yX9_period.cls yX9_period yX9_period ∈ BIG := big_mem (i := 1614) (by decide +kernel) (by decide +kernel)
theorem W1615 : Cond.code yX9_period cX9_period 2 (some .int) ∈ BIG := big_mem (i := 1615) (by decide +kernel) (by decide +kernel)
theorem W1616 : Cond.methodLink RX9 190 yX9_isPeriod ∈ BIG := big_mem (i := 1616) (by decide +kernel) (by decide +kernel)
theorem W1618 : Cond.instanceMethod yX9_isPeriod ∈ BIG := big_mem (i := 1618) (by decide +kernel) (by decide +kernel)
theorem W1619 : Cond.code yX9_isPeriod cX9_isPeriod 3 (some .boolean) ∈ BIG := big_mem (i := 1619) (by decide +kernel) (by decide +kernel)
theorem W1621 : Cond.instanceMethod yX9_periodBySearch ∈ BIG := big_mem (i := 1621) (by decide +kernel) (by decide +kernel)
theorem W1622 : Cond.selects yX9_periodBySearch.cls yX9_periodBySearch yX9_periodBySearch ∈ BIG := big_mem (i := 1622) (by decide +kernel) (by decide +kernel)
theorem W1623 : Cond.code yX9_periodBySearch cX9_periodBySearch 1 (some .int) ∈ BIG := big_mem (i := 1623) (by decide +kernel) (by decide +kernel)
theorem W1624 : Cond.methodLink RX9 193 yX9_period ∈ BIG := big_mem (i := 1624) (by decide +kernel) (by decide +kernel)
theorem W1626 : Cond.instanceMethod yX9_beatsUntilBreak ∈ BIG := big_mem (i := 1626) (by decide +kernel) (by decide +kernel)
theorem W1627 : Cond.selects yX9_beatsUntilBreak.cls yX9_beatsUntilBreak yX9_beatsUntilBreak ∈ BIG := big_mem (i := 1627) (by decide +kernel) (by decide +kernel)
theorem W1628 : Cond.code yX9_beatsUntilBreak cX9_beatsUntilBreak 4 (some .int) ∈ BIG := big_mem (i := 1628) (by decide +kernel) (by decide +kernel)
theorem W1629 : Cond.methodLink RX9 196 yX9_looksAhead ∈ BIG := big_mem (i := 1629) (by decide +kernel) (by decide +kernel)
theorem W1631 : Cond.instanceMethod yX9_looksAhead ∈ BIG := big_mem (i := 1631) (by decide +kernel) (by decide +kernel)
theorem W1632 : Cond.code yX9_looksAhead cX9_looksAhead 2 none ∈ BIG := big_mem (i := 1632) (by decide +kernel) (by decide +kernel)
theorem W1633 : Cond.methodLink RX9 199 yX9_looksBack ∈ BIG := big_mem (i := 1633) (by decide +kernel) (by decide +kernel)
theorem W1635 : Cond.instanceMethod yX9_looksBack ∈ BIG := big_mem (i := 1635) (by decide +kernel) (by decide +kernel)
theorem W1636 : Cond.code yX9_looksBack cX9_looksBack 2 none ∈ BIG := big_mem (i := 1636) (by decide +kernel) (by decide +kernel)
theorem W1638 : Cond.instanceMethod yX9_totalWithin ∈ BIG := big_mem (i := 1638) (by decide +kernel) (by decide +kernel)
theorem W1639 : Cond.selects yX9_totalWithin.cls yX9_totalWithin yX9_totalWithin ∈ BIG := big_mem (i := 1639) (by decide +kernel) (by decide +kernel)
theorem W1640 : Cond.code yX9_totalWithin cX9_totalWithin 3 (some .int) ∈ BIG := big_mem (i := 1640) (by decide +kernel) (by decide +kernel)
theorem W1642 : Cond.instanceMethod yX9_breakCount ∈ BIG := big_mem (i := 1642) (by decide +kernel) (by decide +kernel)
theorem W1643 : Cond.selects yX9_breakCount.cls yX9_breakCount yX9_breakCount ∈ BIG := big_mem (i := 1643) (by decide +kernel) (by decide +kernel)
theorem W1644 : Cond.code yX9_breakCount cX9_breakCount 1 (some .int) ∈ BIG := big_mem (i := 1644) (by decide +kernel) (by decide +kernel)
theorem W1646 : Cond.instanceMethod yX9_playedVolume ∈ BIG := big_mem (i := 1646) (by decide +kernel) (by decide +kernel)
theorem W1647 : Cond.selects yX9_playedVolume.cls yX9_playedVolume yX9_playedVolume ∈ BIG := big_mem (i := 1647) (by decide +kernel) (by decide +kernel)
theorem W1648 : Cond.code yX9_playedVolume cX9_playedVolume 2 (some .int) ∈ BIG := big_mem (i := 1648) (by decide +kernel) (by decide +kernel)
theorem W1650 : Cond.instanceMethod yX9_totalVolume ∈ BIG := big_mem (i := 1650) (by decide +kernel) (by decide +kernel)
theorem W1651 : Cond.selects yX9_totalVolume.cls yX9_totalVolume yX9_totalVolume ∈ BIG := big_mem (i := 1651) (by decide +kernel) (by decide +kernel)
theorem W1652 : Cond.code yX9_totalVolume cX9_totalVolume 1 (some .long) ∈ BIG := big_mem (i := 1652) (by decide +kernel) (by decide +kernel)
theorem W1654 : Cond.instanceMethod yX9_totalVolumeBySounds ∈ BIG := big_mem (i := 1654) (by decide +kernel) (by decide +kernel)
theorem W1655 : Cond.selects yX9_totalVolumeBySounds.cls yX9_totalVolumeBySounds yX9_totalVolumeBySounds ∈ BIG := big_mem (i := 1655) (by decide +kernel) (by decide +kernel)
theorem W1656 : Cond.code yX9_totalVolumeBySounds cX9_totalVolumeBySounds 1 (some .long) ∈ BIG := big_mem (i := 1656) (by decide +kernel) (by decide +kernel)
theorem W1657 : Cond.methodLink RX9 205 yX9_volumeBySounds ∈ BIG := big_mem (i := 1657) (by decide +kernel) (by decide +kernel)
theorem W1659 : Cond.instanceMethod yX9_volumeBySounds ∈ BIG := big_mem (i := 1659) (by decide +kernel) (by decide +kernel)
theorem W1660 : Cond.code yX9_volumeBySounds cX9_volumeBySounds 4 (some .int) ∈ BIG := big_mem (i := 1660) (by decide +kernel) (by decide +kernel)
theorem W1661 : Cond.methodLink RX9 202 yX9_soundsOf ∈ BIG := big_mem (i := 1661) (by decide +kernel) (by decide +kernel)
theorem W1663 : Cond.instanceMethod yX9_soundsOf ∈ BIG := big_mem (i := 1663) (by decide +kernel) (by decide +kernel)
theorem W1664 : Cond.code yX9_soundsOf cX9_soundsOf 3 (some .int) ∈ BIG := big_mem (i := 1664) (by decide +kernel) (by decide +kernel)
theorem W1666 : Cond.instanceMethod yX9_soundCount ∈ BIG := big_mem (i := 1666) (by decide +kernel) (by decide +kernel)
theorem W1667 : Cond.selects yX9_soundCount.cls yX9_soundCount yX9_soundCount ∈ BIG := big_mem (i := 1667) (by decide +kernel) (by decide +kernel)
theorem W1668 : Cond.code yX9_soundCount cX9_soundCount 3 (some .int) ∈ BIG := big_mem (i := 1668) (by decide +kernel) (by decide +kernel)
theorem W1670 : Cond.instanceMethod yX9_greatestTotal ∈ BIG := big_mem (i := 1670) (by decide +kernel) (by decide +kernel)
theorem W1671 : Cond.selects yX9_greatestTotal.cls yX9_greatestTotal yX9_greatestTotal ∈ BIG := big_mem (i := 1671) (by decide +kernel) (by decide +kernel)
theorem W1672 : Cond.code yX9_greatestTotal cX9_greatestTotal 1 (some .int) ∈ BIG := big_mem (i := 1672) (by decide +kernel) (by decide +kernel)
theorem W1674 : Cond.instanceMethod yX9_loggedTotal ∈ BIG := big_mem (i := 1674) (by decide +kernel) (by decide +kernel)
theorem W1675 : Cond.selects yX9_loggedTotal.cls yX9_loggedTotal yX9_loggedTotal ∈ BIG := big_mem (i := 1675) (by decide +kernel) (by decide +kernel)
theorem W1676 : Cond.code yX9_loggedTotal cX9_loggedTotal 2 (some .int) ∈ BIG := big_mem (i := 1676) (by decide +kernel) (by decide +kernel)
theorem W1678 : Cond.instanceMethod yX9_sectionByVolume ∈ BIG := big_mem (i := 1678) (by decide +kernel) (by decide +kernel)
theorem W1679 : Cond.selects yX9_sectionByVolume.cls yX9_sectionByVolume yX9_sectionByVolume ∈ BIG := big_mem (i := 1679) (by decide +kernel) (by decide +kernel)
theorem W1680 : Cond.code yX9_sectionByVolume cX9_sectionByVolume 5 (some .int) ∈ BIG := big_mem (i := 1680) (by decide +kernel) (by decide +kernel)
theorem W1681 : Cond.methodLink RX9 208 yX9_isAhead ∈ BIG := big_mem (i := 1681) (by decide +kernel) (by decide +kernel)
theorem W1683 : Cond.instanceMethod yX9_isAhead ∈ BIG := big_mem (i := 1683) (by decide +kernel) (by decide +kernel)
theorem W1684 : Cond.code yX9_isAhead cX9_isAhead 5 (some .boolean) ∈ BIG := big_mem (i := 1684) (by decide +kernel) (by decide +kernel)
theorem W1686 : Cond.instanceMethod yX9_noteBySounds ∈ BIG := big_mem (i := 1686) (by decide +kernel) (by decide +kernel)
theorem W1687 : Cond.selects yX9_noteBySounds.cls yX9_noteBySounds yX9_noteBySounds ∈ BIG := big_mem (i := 1687) (by decide +kernel) (by decide +kernel)
theorem W1688 : Cond.code yX9_noteBySounds cX9_noteBySounds 6 (some .int) ∈ BIG := big_mem (i := 1688) (by decide +kernel) (by decide +kernel)
theorem W1689 : Cond.methodLink RX9 211 yX9_soundsAll ∈ BIG := big_mem (i := 1689) (by decide +kernel) (by decide +kernel)
theorem W1691 : Cond.instanceMethod yX9_soundsAll ∈ BIG := big_mem (i := 1691) (by decide +kernel) (by decide +kernel)
theorem W1692 : Cond.code yX9_soundsAll cX9_soundsAll 2 (some .int) ∈ BIG := big_mem (i := 1692) (by decide +kernel) (by decide +kernel)
theorem W1694 : Cond.instanceMethod yX9_meanTotal ∈ BIG := big_mem (i := 1694) (by decide +kernel) (by decide +kernel)
theorem W1695 : Cond.selects yX9_meanTotal.cls yX9_meanTotal yX9_meanTotal ∈ BIG := big_mem (i := 1695) (by decide +kernel) (by decide +kernel)
theorem W1696 : Cond.code yX9_meanTotal cX9_meanTotal 1 (some .double) ∈ BIG := big_mem (i := 1696) (by decide +kernel) (by decide +kernel)
theorem W1698 : Cond.instanceMethod yX9_maskedShare ∈ BIG := big_mem (i := 1698) (by decide +kernel) (by decide +kernel)
theorem W1699 : Cond.selects yX9_maskedShare.cls yX9_maskedShare yX9_maskedShare ∈ BIG := big_mem (i := 1699) (by decide +kernel) (by decide +kernel)
theorem W1700 : Cond.code yX9_maskedShare cX9_maskedShare 4 (some .float) ∈ BIG := big_mem (i := 1700) (by decide +kernel) (by decide +kernel)
theorem W1702 : Cond.instanceMethod yX9_isConsistent ∈ BIG := big_mem (i := 1702) (by decide +kernel) (by decide +kernel)
theorem W1703 : Cond.selects yX9_isConsistent.cls yX9_isConsistent yX9_isConsistent ∈ BIG := big_mem (i := 1703) (by decide +kernel) (by decide +kernel)
theorem W1704 : Cond.code yX9_isConsistent cX9_isConsistent 1 (some .boolean) ∈ BIG := big_mem (i := 1704) (by decide +kernel) (by decide +kernel)
theorem W1706 : Cond.instanceMethod yX9_renderScore ∈ BIG := big_mem (i := 1706) (by decide +kernel) (by decide +kernel)
theorem W1707 : Cond.selects yX9_renderScore.cls yX9_renderScore yX9_renderScore ∈ BIG := big_mem (i := 1707) (by decide +kernel) (by decide +kernel)
theorem W1708 : Cond.code yX9_renderScore cX9_renderScore 4 (some .int) ∈ BIG := big_mem (i := 1708) (by decide +kernel) (by decide +kernel)
theorem W1709 : Cond.methodLink RX9 217 yX9_writes ∈ BIG := big_mem (i := 1709) (by decide +kernel) (by decide +kernel)
theorem W1711 : Cond.instanceMethod yX9_writes ∈ BIG := big_mem (i := 1711) (by decide +kernel) (by decide +kernel)
theorem W1712 : Cond.code yX9_writes cX9_writes 2 none ∈ BIG := big_mem (i := 1712) (by decide +kernel) (by decide +kernel)
theorem W1714 : Cond.instanceMethod yX9_renderMask ∈ BIG := big_mem (i := 1714) (by decide +kernel) (by decide +kernel)
theorem W1715 : Cond.selects yX9_renderMask.cls yX9_renderMask yX9_renderMask ∈ BIG := big_mem (i := 1715) (by decide +kernel) (by decide +kernel)
theorem W1716 : Cond.code yX9_renderMask cX9_renderMask 3 (some .int) ∈ BIG := big_mem (i := 1716) (by decide +kernel) (by decide +kernel)
theorem W1718 : Cond.instanceMethod yX9_outputAt ∈ BIG := big_mem (i := 1718) (by decide +kernel) (by decide +kernel)
theorem W1719 : Cond.selects yX9_outputAt.cls yX9_outputAt yX9_outputAt ∈ BIG := big_mem (i := 1719) (by decide +kernel) (by decide +kernel)
theorem W1720 : Cond.code yX9_outputAt cX9_outputAt 2 (some .char) ∈ BIG := big_mem (i := 1720) (by decide +kernel) (by decide +kernel)
theorem W1722 : Cond.instanceMethod yX9_type ∈ BIG := big_mem (i := 1722) (by decide +kernel) (by decide +kernel)
theorem W1723 : Cond.selects yX9_type.cls yX9_type yX9_type ∈ BIG := big_mem (i := 1723) (by decide +kernel) (by decide +kernel)
theorem W1724 : Cond.code yX9_type cX9_type 2 (some .int) ∈ BIG := big_mem (i := 1724) (by decide +kernel) (by decide +kernel)
theorem W1726 : Cond.instanceMethod yX9_runScript ∈ BIG := big_mem (i := 1726) (by decide +kernel) (by decide +kernel)
theorem W1727 : Cond.selects yX9_runScript.cls yX9_runScript yX9_runScript ∈ BIG := big_mem (i := 1727) (by decide +kernel) (by decide +kernel)
theorem W1728 : Cond.code yX9_runScript cX9_runScript 2 (some .int) ∈ BIG := big_mem (i := 1728) (by decide +kernel) (by decide +kernel)
theorem W1729 : Cond.methodLink RX9 278 yX9_readsAll ∈ BIG := big_mem (i := 1729) (by decide +kernel) (by decide +kernel)
theorem W1731 : Cond.instanceMethod yX9_readsAll ∈ BIG := big_mem (i := 1731) (by decide +kernel) (by decide +kernel)
theorem W1732 : Cond.code yX9_readsAll cX9_readsAll 2 (some .boolean) ∈ BIG := big_mem (i := 1732) (by decide +kernel) (by decide +kernel)
theorem W1733 : Cond.methodLink RX9 263 yX9_readsCommand ∈ BIG := big_mem (i := 1733) (by decide +kernel) (by decide +kernel)
theorem W1735 : Cond.instanceMethod yX9_readsCommand ∈ BIG := big_mem (i := 1735) (by decide +kernel) (by decide +kernel)
theorem W1736 : Cond.code yX9_readsCommand cX9_readsCommand 1 (some .boolean) ∈ BIG := big_mem (i := 1736) (by decide +kernel) (by decide +kernel)
theorem W1737 : Cond.methodLink RX9 226 yX9_nextChar ∈ BIG := big_mem (i := 1737) (by decide +kernel) (by decide +kernel)
theorem W1739 : Cond.instanceMethod yX9_nextChar ∈ BIG := big_mem (i := 1739) (by decide +kernel) (by decide +kernel)
theorem W1740 : Cond.code yX9_nextChar cX9_nextChar 1 (some .int) ∈ BIG := big_mem (i := 1740) (by decide +kernel) (by decide +kernel)
theorem W1741 : Cond.methodLink RX9 232 yX9_reads ∈ BIG := big_mem (i := 1741) (by decide +kernel) (by decide +kernel)
theorem W1743 : Cond.instanceMethod yX9_reads ∈ BIG := big_mem (i := 1743) (by decide +kernel) (by decide +kernel)
theorem W1744 : Cond.code yX9_reads cX9_reads 2 (some .boolean) ∈ BIG := big_mem (i := 1744) (by decide +kernel) (by decide +kernel)
theorem W1745 : Cond.methodLink RX9 244 yX9_readsAdd ∈ BIG := big_mem (i := 1745) (by decide +kernel) (by decide +kernel)
theorem W1747 : Cond.instanceMethod yX9_readsAdd ∈ BIG := big_mem (i := 1747) (by decide +kernel) (by decide +kernel)
theorem W1748 : Cond.code yX9_readsAdd cX9_readsAdd 1 (some .boolean) ∈ BIG := big_mem (i := 1748) (by decide +kernel) (by decide +kernel)
theorem W1749 : Cond.methodLink RX9 229 yX9_readsDigit ∈ BIG := big_mem (i := 1749) (by decide +kernel) (by decide +kernel)
theorem W1751 : Cond.instanceMethod yX9_readsDigit ∈ BIG := big_mem (i := 1751) (by decide +kernel) (by decide +kernel)
theorem W1752 : Cond.code yX9_readsDigit cX9_readsDigit 2 (some .boolean) ∈ BIG := big_mem (i := 1752) (by decide +kernel) (by decide +kernel)
theorem W1753 : Cond.methodLink RX9 248 yX9_readsNote ∈ BIG := big_mem (i := 1753) (by decide +kernel) (by decide +kernel)
theorem W1755 : Cond.instanceMethod yX9_readsNote ∈ BIG := big_mem (i := 1755) (by decide +kernel) (by decide +kernel)
theorem W1756 : Cond.code yX9_readsNote cX9_readsNote 1 (some .boolean) ∈ BIG := big_mem (i := 1756) (by decide +kernel) (by decide +kernel)
theorem W1757 : Cond.methodLink RX9 251 yX9_readsMask ∈ BIG := big_mem (i := 1757) (by decide +kernel) (by decide +kernel)
theorem W1759 : Cond.instanceMethod yX9_readsMask ∈ BIG := big_mem (i := 1759) (by decide +kernel) (by decide +kernel)
theorem W1760 : Cond.code yX9_readsMask cX9_readsMask 1 (some .boolean) ∈ BIG := big_mem (i := 1760) (by decide +kernel) (by decide +kernel)
theorem W1761 : Cond.methodLink RX9 235 yX9_readsSign ∈ BIG := big_mem (i := 1761) (by decide +kernel) (by decide +kernel)
theorem W1763 : Cond.instanceMethod yX9_readsSign ∈ BIG := big_mem (i := 1763) (by decide +kernel) (by decide +kernel)
theorem W1764 : Cond.code yX9_readsSign cX9_readsSign 2 (some .boolean) ∈ BIG := big_mem (i := 1764) (by decide +kernel) (by decide +kernel)
theorem W1765 : Cond.methodLink RX9 254 yX9_readsT ∈ BIG := big_mem (i := 1765) (by decide +kernel) (by decide +kernel)
theorem W1767 : Cond.instanceMethod yX9_readsT ∈ BIG := big_mem (i := 1767) (by decide +kernel) (by decide +kernel)
theorem W1768 : Cond.code yX9_readsT cX9_readsT 1 (some .boolean) ∈ BIG := big_mem (i := 1768) (by decide +kernel) (by decide +kernel)
theorem W1769 : Cond.methodLink RX9 257 yX9_readsRaise ∈ BIG := big_mem (i := 1769) (by decide +kernel) (by decide +kernel)
theorem W1771 : Cond.instanceMethod yX9_readsRaise ∈ BIG := big_mem (i := 1771) (by decide +kernel) (by decide +kernel)
theorem W1772 : Cond.code yX9_readsRaise cX9_readsRaise 1 (some .boolean) ∈ BIG := big_mem (i := 1772) (by decide +kernel) (by decide +kernel)
theorem W1773 : Cond.methodLink RX9 241 yX9_readsNumber ∈ BIG := big_mem (i := 1773) (by decide +kernel) (by decide +kernel)
theorem W1775 : Cond.instanceMethod yX9_readsNumber ∈ BIG := big_mem (i := 1775) (by decide +kernel) (by decide +kernel)
theorem W1776 : Cond.code yX9_readsNumber cX9_readsNumber 2 (some .boolean) ∈ BIG := big_mem (i := 1776) (by decide +kernel) (by decide +kernel)
theorem W1777 : Cond.methodLink RX9 260 yX9_readsBeat ∈ BIG := big_mem (i := 1777) (by decide +kernel) (by decide +kernel)
theorem W1779 : Cond.instanceMethod yX9_readsBeat ∈ BIG := big_mem (i := 1779) (by decide +kernel) (by decide +kernel)
theorem W1780 : Cond.code yX9_readsBeat cX9_readsBeat 1 (some .boolean) ∈ BIG := big_mem (i := 1780) (by decide +kernel) (by decide +kernel)
theorem W1781 : Cond.methodLink RX9 281 yX9_doesAll ∈ BIG := big_mem (i := 1781) (by decide +kernel) (by decide +kernel)
theorem W1783 : Cond.instanceMethod yX9_doesAll ∈ BIG := big_mem (i := 1783) (by decide +kernel) (by decide +kernel)
theorem W1784 : Cond.code yX9_doesAll cX9_doesAll 2 (some .boolean) ∈ BIG := big_mem (i := 1784) (by decide +kernel) (by decide +kernel)
theorem W1785 : Cond.methodLink RX9 272 yX9_notNow ∈ BIG := big_mem (i := 1785) (by decide +kernel) (by decide +kernel)
theorem W1787 : Cond.instanceMethod yX9_notNow ∈ BIG := big_mem (i := 1787) (by decide +kernel) (by decide +kernel)
theorem W1788 : Cond.code yX9_notNow cX9_notNow 3 (some .int) ∈ BIG := big_mem (i := 1788) (by decide +kernel) (by decide +kernel)
theorem W1789 : Cond.methodLink RX9 266 yX9_notSection ∈ BIG := big_mem (i := 1789) (by decide +kernel) (by decide +kernel)
theorem W1791 : Cond.instanceMethod yX9_notSection ∈ BIG := big_mem (i := 1791) (by decide +kernel) (by decide +kernel)
theorem W1792 : Cond.code yX9_notSection cX9_notSection 2 (some .int) ∈ BIG := big_mem (i := 1792) (by decide +kernel) (by decide +kernel)
theorem W1793 : Cond.methodLink RX9 275 yX9_doesNow ∈ BIG := big_mem (i := 1793) (by decide +kernel) (by decide +kernel)
theorem W1795 : Cond.instanceMethod yX9_doesNow ∈ BIG := big_mem (i := 1795) (by decide +kernel) (by decide +kernel)
theorem W1796 : Cond.code yX9_doesNow cX9_doesNow 3 (some .int) ∈ BIG := big_mem (i := 1796) (by decide +kernel) (by decide +kernel)
theorem W1797 : Cond.methodLink RX9 284 yX9_goesBack ∈ BIG := big_mem (i := 1797) (by decide +kernel) (by decide +kernel)
theorem W1799 : Cond.instanceMethod yX9_goesBack ∈ BIG := big_mem (i := 1799) (by decide +kernel) (by decide +kernel)
theorem W1800 : Cond.code yX9_goesBack cX9_goesBack 2 none ∈ BIG := big_mem (i := 1800) (by decide +kernel) (by decide +kernel)
theorem W1802 : Cond.instanceMethod yX9_errorPosition ∈ BIG := big_mem (i := 1802) (by decide +kernel) (by decide +kernel)
theorem W1803 : Cond.selects yX9_errorPosition.cls yX9_errorPosition yX9_errorPosition ∈ BIG := big_mem (i := 1803) (by decide +kernel) (by decide +kernel)
theorem W1804 : Cond.code yX9_errorPosition cX9_errorPosition 1 (some .int) ∈ BIG := big_mem (i := 1804) (by decide +kernel) (by decide +kernel)
theorem W1806 : Cond.instanceMethod yX9_failedCommand ∈ BIG := big_mem (i := 1806) (by decide +kernel) (by decide +kernel)
theorem W1807 : Cond.selects yX9_failedCommand.cls yX9_failedCommand yX9_failedCommand ∈ BIG := big_mem (i := 1807) (by decide +kernel) (by decide +kernel)
theorem W1808 : Cond.code yX9_failedCommand cX9_failedCommand 1 (some .int) ∈ BIG := big_mem (i := 1808) (by decide +kernel) (by decide +kernel)
theorem W1810 : Cond.instanceMethod yX9_undo ∈ BIG := big_mem (i := 1810) (by decide +kernel) (by decide +kernel)
theorem W1811 : Cond.selects yX9_undo.cls yX9_undo yX9_undo ∈ BIG := big_mem (i := 1811) (by decide +kernel) (by decide +kernel)
theorem W1812 : Cond.code yX9_undo cX9_undo 3 (some .int) ∈ BIG := big_mem (i := 1812) (by decide +kernel) (by decide +kernel)
theorem W1814 : Cond.instanceMethod yX9_save ∈ BIG := big_mem (i := 1814) (by decide +kernel) (by decide +kernel)
theorem W1815 : Cond.selects yX9_save.cls yX9_save yX9_save ∈ BIG := big_mem (i := 1815) (by decide +kernel) (by decide +kernel)
theorem W1816 : Cond.code yX9_save cX9_save 2 (some .int) ∈ BIG := big_mem (i := 1816) (by decide +kernel) (by decide +kernel)
theorem W1818 : Cond.instanceMethod yX9_restore ∈ BIG := big_mem (i := 1818) (by decide +kernel) (by decide +kernel)
theorem W1819 : Cond.selects yX9_restore.cls yX9_restore yX9_restore ∈ BIG := big_mem (i := 1819) (by decide +kernel) (by decide +kernel)
theorem W1820 : Cond.code yX9_restore cX9_restore 2 (some .int) ∈ BIG := big_mem (i := 1820) (by decide +kernel) (by decide +kernel)
theorem ok_X4_copyFrom : okV yX4_copyFrom cX4_copyFrom 2 none 1 := ⟨⟨W325, W74, by decide +kernel, by decide +kernel, by decide +kernel⟩, W323, W324⟩
theorem ok_X5_copyFrom : okV yX5_copyFrom cX5_copyFrom 3 none 1 := ⟨⟨W321, W73, by decide +kernel, by decide +kernel, by decide +kernel⟩, W319, W320⟩
theorem ok_X2_prepare : okV yX2_prepare cX2_prepare 2 none 1 := ⟨⟨W317, W75, by decide +kernel, by decide +kernel, by decide +kernel⟩, W315, W316⟩
theorem ok_X8_kindIndex : okS yX8_kindIndex cX8_kindIndex 1 (some .int) 1 := ⟨⟨W356, W72, by decide +kernel, by decide +kernel, by decide +kernel⟩, W355⟩
theorem ok_X8_isSide : okS yX8_isSide cX8_isSide 1 (some .boolean) 1 := ⟨⟨W661, W72, by decide +kernel, by decide +kernel, by decide +kernel⟩, W660⟩
theorem ok_X4_begin : okV yX4_begin cX4_begin 5 none 3 := ⟨⟨W665, W74, by decide +kernel, by decide +kernel, by decide +kernel⟩, W663, W664⟩
theorem ok_X5_add : okV yX5_add cX5_add 4 (some .int) 3 := ⟨⟨W658, W73, by decide +kernel, by decide +kernel, by decide +kernel⟩, W656, W657⟩
theorem ok_X2_keep : okV yX2_keep cX2_keep 1 none 0 := ⟨⟨W502, W75, by decide +kernel, by decide +kernel, by decide +kernel⟩, W500, W501⟩
theorem ok_X8_settled : okV yX8_settled cX8_settled 2 (some .int) 1 := ⟨⟨W378, W72, by decide +kernel, by decide +kernel, by decide +kernel⟩, W377, W0⟩
theorem ok_X8_addSection : okV yX8_addSection cX8_addSection 4 (some .int) 3 := ⟨⟨W654, W72, by decide +kernel, by decide +kernel, by decide +kernel⟩, W652, W653⟩
theorem ok_X5_hasSection : okV yX5_hasSection cX5_hasSection 2 (some .boolean) 1 := ⟨⟨W537, W73, by decide +kernel, by decide +kernel, by decide +kernel⟩, W535, W536⟩
theorem ok_X5_drop : okV yX5_drop cX5_drop 4 (some .int) 1 := ⟨⟨W697, W73, by decide +kernel, by decide +kernel, by decide +kernel⟩, W695, W696⟩
theorem ok_X8_removeSection : okV yX8_removeSection cX8_removeSection 2 (some .int) 1 := ⟨⟨W693, W72, by decide +kernel, by decide +kernel, by decide +kernel⟩, W691, W692⟩
theorem ok_X4_hasRow : okV yX4_hasRow cX4_hasRow 2 (some .boolean) 1 := ⟨⟨W639, W74, by decide +kernel, by decide +kernel, by decide +kernel⟩, W637, W638⟩
theorem ok_X4_hasColumn : okV yX4_hasColumn cX4_hasColumn 2 (some .boolean) 1 := ⟨⟨W612, W74, by decide +kernel, by decide +kernel, by decide +kernel⟩, W610, W611⟩
theorem ok_X4_hasPlace : okV yX4_hasPlace cX4_hasPlace 3 (some .boolean) 2 := ⟨⟨W635, W74, by decide +kernel, by decide +kernel, by decide +kernel⟩, W633, W634⟩
theorem ok_X4_noteAt : okV yX4_noteAt cX4_noteAt 3 (some .int) 2 := ⟨⟨W631, W74, by decide +kernel, by decide +kernel, by decide +kernel⟩, W629, W630⟩
theorem ok_X4_putNote : okV yX4_putNote cX4_putNote 4 none 3 := ⟨⟨W715, W74, by decide +kernel, by decide +kernel, by decide +kernel⟩, W713, W714⟩
theorem ok_X5_write : okV yX5_write cX5_write 6 (some .int) 4 := ⟨⟨W709, W73, by decide +kernel, by decide +kernel, by decide +kernel⟩, W707, W708⟩
theorem ok_X8_setNote : okV yX8_setNote cX8_setNote 5 (some .int) 4 := ⟨⟨W705, W72, by decide +kernel, by decide +kernel, by decide +kernel⟩, W703, W704⟩
theorem ok_X8_isMaskColumn : okS yX8_isMaskColumn cX8_isMaskColumn 1 (some .boolean) 1 := ⟨⟨W729, W72, by decide +kernel, by decide +kernel, by decide +kernel⟩, W728⟩
theorem ok_X4_masks : okV yX4_masks cX4_masks 2 (some .boolean) 1 := ⟨⟨W349, W74, by decide +kernel, by decide +kernel, by decide +kernel⟩, W347, W348⟩
theorem ok_X4_putMask : okV yX4_putMask cX4_putMask 3 none 2 := ⟨⟨W733, W74, by decide +kernel, by decide +kernel, by decide +kernel⟩, W731, W732⟩
theorem ok_X5_mask : okV yX5_mask cX5_mask 5 (some .int) 3 := ⟨⟨W726, W73, by decide +kernel, by decide +kernel, by decide +kernel⟩, W724, W725⟩
theorem ok_X8_setMasked : okV yX8_setMasked cX8_setMasked 4 (some .boolean) 3 := ⟨⟨W722, W72, by decide +kernel, by decide +kernel, by decide +kernel⟩, W720, W721⟩
theorem ok_X4_flip : okV yX4_flip cX4_flip 6 none 0 := ⟨⟨W623, W74, by decide +kernel, by decide +kernel, by decide +kernel⟩, W621, W622⟩
theorem ok_X5_flip : okV yX5_flip cX5_flip 2 (some .int) 1 := ⟨⟨W744, W73, by decide +kernel, by decide +kernel, by decide +kernel⟩, W742, W743⟩
theorem ok_X8_transpose : okV yX8_transpose cX8_transpose 2 (some .int) 1 := ⟨⟨W740, W72, by decide +kernel, by decide +kernel, by decide +kernel⟩, W738, W739⟩
theorem ok_X4_turn : okV yX4_turn cX4_turn 6 (some .int) 0 := ⟨⟨W760, W74, by decide +kernel, by decide +kernel, by decide +kernel⟩, W758, W759⟩
theorem ok_X5_turn : okV yX5_turn cX5_turn 2 (some .int) 1 := ⟨⟨W756, W73, by decide +kernel, by decide +kernel, by decide +kernel⟩, W754, W755⟩
theorem ok_X8_reverse : okV yX8_reverse cX8_reverse 2 (some .int) 1 := ⟨⟨W752, W72, by decide +kernel, by decide +kernel, by decide +kernel⟩, W750, W751⟩
theorem ok_X4_canLift : okV yX4_canLift cX4_canLift 4 (some .boolean) 1 := ⟨⟨W777, W74, by decide +kernel, by decide +kernel, by decide +kernel⟩, W775, W776⟩
theorem ok_X4_lift : okV yX4_lift cX4_lift 4 (some .int) 1 := ⟨⟨W781, W74, by decide +kernel, by decide +kernel, by decide +kernel⟩, W779, W780⟩
theorem ok_X5_lift : okV yX5_lift cX5_lift 3 (some .int) 2 := ⟨⟨W773, W73, by decide +kernel, by decide +kernel, by decide +kernel⟩, W771, W772⟩
theorem ok_X8_raise : okV yX8_raise cX8_raise 3 (some .int) 2 := ⟨⟨W769, W72, by decide +kernel, by decide +kernel, by decide +kernel⟩, W767, W768⟩
theorem ok_X5_changeTempo : okV yX5_changeTempo cX5_changeTempo 3 (some .int) 1 := ⟨⟨W792, W73, by decide +kernel, by decide +kernel, by decide +kernel⟩, W790, W791⟩
theorem ok_X8_setTempo : okV yX8_setTempo cX8_setTempo 2 (some .int) 1 := ⟨⟨W788, W72, by decide +kernel, by decide +kernel, by decide +kernel⟩, W786, W787⟩
theorem ok_X5_changeLimit : okV yX5_changeLimit cX5_changeLimit 3 (some .int) 1 := ⟨⟨W803, W73, by decide +kernel, by decide +kernel, by decide +kernel⟩, W801, W802⟩
theorem ok_X8_setLimit : okV yX8_setLimit cX8_setLimit 2 (some .int) 1 := ⟨⟨W799, W72, by decide +kernel, by decide +kernel, by decide +kernel⟩, W797, W798⟩
theorem ok_X4_columnIn : okV yX4_columnIn cX4_columnIn 2 (some .int) 1 := ⟨⟨W345, W74, by decide +kernel, by decide +kernel, by decide +kernel⟩, W343, W344⟩
theorem ok_X5_recordSounds : okV yX5_recordSounds cX5_recordSounds 6 none 2 := ⟨⟨W353, W73, by decide +kernel, by decide +kernel, by decide +kernel⟩, W351, W352⟩
theorem ok_X8_volumeOf : okS yX8_volumeOf cX8_volumeOf 2 (some .int) 2 := ⟨⟨W363, W72, by decide +kernel, by decide +kernel, by decide +kernel⟩, W362⟩
theorem ok_X4_volumeOfColumn : okV yX4_volumeOfColumn cX4_volumeOfColumn 4 (some .int) 1 := ⟨⟨W360, W74, by decide +kernel, by decide +kernel, by decide +kernel⟩, W358, W359⟩
theorem ok_X5_playSection : okV yX5_playSection cX5_playSection 4 (some .int) 1 := ⟨⟨W341, W73, by decide +kernel, by decide +kernel, by decide +kernel⟩, W339, W340⟩
theorem ok_X4_tire : okV yX4_tire cX4_tire 1 none 0 := ⟨⟨W367, W74, by decide +kernel, by decide +kernel, by decide +kernel⟩, W365, W366⟩
theorem ok_X5_logTotal : okV yX5_logTotal cX5_logTotal 3 none 1 := ⟨⟨W371, W73, by decide +kernel, by decide +kernel, by decide +kernel⟩, W369, W370⟩
theorem ok_X5_playBeat : okV yX5_playBeat cX5_playBeat 6 (some .int) 0 := ⟨⟨W337, W73, by decide +kernel, by decide +kernel, by decide +kernel⟩, W335, W336⟩
theorem ok_X5_play : okV yX5_play cX5_play 4 (some .int) 1 := ⟨⟨W333, W73, by decide +kernel, by decide +kernel, by decide +kernel⟩, W331, W332⟩
theorem ok_X8_conductWave : okV yX8_conductWave cX8_conductWave 1 (some .int) 0 := ⟨⟨W313, W72, by decide +kernel, by decide +kernel, by decide +kernel⟩, W311, W312⟩
theorem ok_X8_isBeats : okS yX8_isBeats cX8_isBeats 1 (some .boolean) 1 := ⟨⟨W813, W72, by decide +kernel, by decide +kernel, by decide +kernel⟩, W812⟩
theorem ok_X8_conductBeats : okV yX8_conductBeats cX8_conductBeats 2 (some .int) 1 := ⟨⟨W810, W72, by decide +kernel, by decide +kernel, by decide +kernel⟩, W808, W809⟩
theorem ok_X8_beatCount : okV yX8_beatCount cX8_beatCount 1 (some .int) 0 := ⟨⟨W509, W72, by decide +kernel, by decide +kernel, by decide +kernel⟩, W507, W508⟩
theorem ok_X8_sectionCount : okV yX8_sectionCount cX8_sectionCount 1 (some .int) 0 := ⟨⟨W513, W72, by decide +kernel, by decide +kernel, by decide +kernel⟩, W511, W512⟩
theorem ok_X8_tempo : okV yX8_tempo cX8_tempo 1 (some .int) 0 := ⟨⟨W517, W72, by decide +kernel, by decide +kernel, by decide +kernel⟩, W515, W516⟩
theorem ok_X8_limit : okV yX8_limit cX8_limit 1 (some .int) 0 := ⟨⟨W521, W72, by decide +kernel, by decide +kernel, by decide +kernel⟩, W519, W520⟩
theorem ok_X8_presentSection : okV yX8_presentSection cX8_presentSection 2 (some (.object "ScoreOrchestra$Section")) 1 := ⟨⟨W533, W72, by decide +kernel, by decide +kernel, by decide +kernel⟩, W532, W2⟩
theorem ok_X8_kind : okV yX8_kind cX8_kind 2 (some .char) 1 := ⟨⟨W820, W72, by decide +kernel, by decide +kernel, by decide +kernel⟩, W818, W819⟩
theorem ok_X8_rows : okV yX8_rows cX8_rows 2 (some .int) 1 := ⟨⟨W827, W72, by decide +kernel, by decide +kernel, by decide +kernel⟩, W825, W826⟩
theorem ok_X8_columns : okV yX8_columns cX8_columns 2 (some .int) 1 := ⟨⟨W553, W72, by decide +kernel, by decide +kernel, by decide +kernel⟩, W551, W552⟩
theorem ok_X8_note : okV yX8_note cX8_note 5 (some .int) 3 := ⟨⟨W838, W72, by decide +kernel, by decide +kernel, by decide +kernel⟩, W836, W837⟩
theorem ok_X8_isMasked : okV yX8_isMasked cX8_isMasked 4 (some .boolean) 2 := ⟨⟨W848, W72, by decide +kernel, by decide +kernel, by decide +kernel⟩, W846, W847⟩
theorem ok_X8_fatigue : okV yX8_fatigue cX8_fatigue 2 (some .int) 1 := ⟨⟨W858, W72, by decide +kernel, by decide +kernel, by decide +kernel⟩, W856, W857⟩
theorem ok_X8_restingBeats : okV yX8_restingBeats cX8_restingBeats 2 (some .int) 1 := ⟨⟨W865, W72, by decide +kernel, by decide +kernel, by decide +kernel⟩, W863, W864⟩
theorem ok_X4_hasScoreOf : okV yX4_hasScoreOf cX4_hasScoreOf 3 (some .boolean) 1 := ⟨⟨W876, W74, by decide +kernel, by decide +kernel, by decide +kernel⟩, W874, W875⟩
theorem ok_X8_isSymmetric : okV yX8_isSymmetric cX8_isSymmetric 3 (some .boolean) 1 := ⟨⟨W872, W72, by decide +kernel, by decide +kernel, by decide +kernel⟩, W870, W871⟩
theorem ok_X8_areAlike : okV yX8_areAlike cX8_areAlike 3 (some .boolean) 2 := ⟨⟨W883, W72, by decide +kernel, by decide +kernel, by decide +kernel⟩, W881, W882⟩
theorem ok_X8_noteVolume : okV yX8_noteVolume cX8_noteVolume 3 (some .int) 2 := ⟨⟨W890, W72, by decide +kernel, by decide +kernel, by decide +kernel⟩, W888, W889⟩
theorem ok_X8_sectionWithColumn : okV yX8_sectionWithColumn cX8_sectionWithColumn 4 (some (.object "ScoreOrchestra$Section")) 2 := ⟨⟨W608, W72, by decide +kernel, by decide +kernel, by decide +kernel⟩, W607, W6⟩
theorem ok_X8_columnVolume : okV yX8_columnVolume cX8_columnVolume 3 (some .int) 2 := ⟨⟨W604, W72, by decide +kernel, by decide +kernel, by decide +kernel⟩, W602, W603⟩
theorem ok_X4_volumeOfRow : okV yX4_volumeOfRow cX4_volumeOfRow 4 (some .int) 1 := ⟨⟨W627, W74, by decide +kernel, by decide +kernel, by decide +kernel⟩, W625, W626⟩
theorem ok_X8_columnVolumeByTransposing : okV yX8_columnVolumeByTransposing cX8_columnVolumeByTransposing 3 (some .int) 2 := ⟨⟨W618, W72, by decide +kernel, by decide +kernel, by decide +kernel⟩, W616, W617⟩
theorem ok_X4_volumeIn : okV yX4_volumeIn cX4_volumeIn 3 (some .int) 1 := ⟨⟨W542, W74, by decide +kernel, by decide +kernel, by decide +kernel⟩, W540, W541⟩
theorem ok_X8_nextVolume : okV yX8_nextVolume cX8_nextVolume 2 (some .int) 1 := ⟨⟨W529, W72, by decide +kernel, by decide +kernel, by decide +kernel⟩, W527, W528⟩
theorem ok_X8_nextTotal : okV yX8_nextTotal cX8_nextTotal 3 (some .int) 0 := ⟨⟨W525, W72, by decide +kernel, by decide +kernel, by decide +kernel⟩, W523, W524⟩
theorem ok_X8_greatestCommonDivisor : okS yX8_greatestCommonDivisor cX8_greatestCommonDivisor 6 (some .int) 2 := ⟨⟨W559, W72, by decide +kernel, by decide +kernel, by decide +kernel⟩, W558⟩
theorem ok_X8_leastCommonMultiple : okS yX8_leastCommonMultiple cX8_leastCommonMultiple 3 (some .int) 2 := ⟨⟨W556, W72, by decide +kernel, by decide +kernel, by decide +kernel⟩, W555⟩
theorem ok_X8_period : okV yX8_period cX8_period 3 (some .int) 0 := ⟨⟨W549, W72, by decide +kernel, by decide +kernel, by decide +kernel⟩, W547, W548⟩
theorem ok_X8_isPeriod : okV yX8_isPeriod cX8_isPeriod 4 (some .boolean) 1 := ⟨⟨W567, W72, by decide +kernel, by decide +kernel, by decide +kernel⟩, W566, W3⟩
theorem ok_X8_periodBySearch : okV yX8_periodBySearch cX8_periodBySearch 2 (some .int) 0 := ⟨⟨W563, W72, by decide +kernel, by decide +kernel, by decide +kernel⟩, W561, W562⟩
theorem ok_X8_beatsUntilBreak : okV yX8_beatsUntilBreak cX8_beatsUntilBreak 2 (some .int) 0 := ⟨⟨W912, W72, by decide +kernel, by decide +kernel, by decide +kernel⟩, W910, W911⟩
theorem ok_X8_totalWithin : okV yX8_totalWithin cX8_totalWithin 2 (some .int) 1 := ⟨⟨W936, W72, by decide +kernel, by decide +kernel, by decide +kernel⟩, W934, W935⟩
theorem ok_X8_breakCount : okV yX8_breakCount cX8_breakCount 1 (some .int) 0 := ⟨⟨W571, W72, by decide +kernel, by decide +kernel, by decide +kernel⟩, W569, W570⟩
theorem ok_X8_playedVolume : okV yX8_playedVolume cX8_playedVolume 2 (some .int) 1 := ⟨⟨W944, W72, by decide +kernel, by decide +kernel, by decide +kernel⟩, W942, W943⟩
theorem ok_X8_totalVolume : okV yX8_totalVolume cX8_totalVolume 1 (some .long) 0 := ⟨⟨W575, W72, by decide +kernel, by decide +kernel, by decide +kernel⟩, W573, W574⟩
theorem ok_X5_soundsOf : okV yX5_soundsOf cX5_soundsOf 4 (some .int) 2 := ⟨⟨W587, W73, by decide +kernel, by decide +kernel, by decide +kernel⟩, W585, W586⟩
theorem ok_X8_soundsVolume : okV yX8_soundsVolume cX8_soundsVolume 5 (some .long) 1 := ⟨⟨W583, W72, by decide +kernel, by decide +kernel, by decide +kernel⟩, W582, W4⟩
theorem ok_X8_totalVolumeBySounds : okV yX8_totalVolumeBySounds cX8_totalVolumeBySounds 1 (some .long) 0 := ⟨⟨W579, W72, by decide +kernel, by decide +kernel, by decide +kernel⟩, W577, W578⟩
theorem ok_X8_soundCount : okV yX8_soundCount cX8_soundCount 3 (some .int) 2 := ⟨⟨W951, W72, by decide +kernel, by decide +kernel, by decide +kernel⟩, W949, W950⟩
theorem ok_X8_greatestTotal : okV yX8_greatestTotal cX8_greatestTotal 1 (some .int) 0 := ⟨⟨W958, W72, by decide +kernel, by decide +kernel, by decide +kernel⟩, W956, W957⟩
theorem ok_X5_totalOf : okV yX5_totalOf cX5_totalOf 3 (some .int) 1 := ⟨⟨W971, W73, by decide +kernel, by decide +kernel, by decide +kernel⟩, W969, W970⟩
theorem ok_X8_loggedTotal : okV yX8_loggedTotal cX8_loggedTotal 2 (some .int) 1 := ⟨⟨W966, W72, by decide +kernel, by decide +kernel, by decide +kernel⟩, W964, W965⟩
theorem ok_X8_precedes : okV yX8_precedes cX8_precedes 3 (some .boolean) 2 := ⟨⟨W986, W72, by decide +kernel, by decide +kernel, by decide +kernel⟩, W985, W8⟩
theorem ok_X8_sectionRank : okV yX8_sectionRank cX8_sectionRank 4 (some .int) 1 := ⟨⟨W982, W72, by decide +kernel, by decide +kernel, by decide +kernel⟩, W981, W7⟩
theorem ok_X8_sectionByVolume : okV yX8_sectionByVolume cX8_sectionByVolume 3 (some .int) 1 := ⟨⟨W978, W72, by decide +kernel, by decide +kernel, by decide +kernel⟩, W976, W977⟩
theorem ok_X5_soundsOfAllKinds : okV yX5_soundsOfAllKinds cX5_soundsOfAllKinds 2 (some .int) 1 := ⟨⟨W1004, W73, by decide +kernel, by decide +kernel, by decide +kernel⟩, W1002, W1003⟩
theorem ok_X8_noteRank : okV yX8_noteRank cX8_noteRank 6 (some .int) 1 := ⟨⟨W1000, W72, by decide +kernel, by decide +kernel, by decide +kernel⟩, W999, W9⟩
theorem ok_X8_noteBySounds : okV yX8_noteBySounds cX8_noteBySounds 3 (some .int) 1 := ⟨⟨W996, W72, by decide +kernel, by decide +kernel, by decide +kernel⟩, W994, W995⟩
theorem ok_X8_meanTotal : okV yX8_meanTotal cX8_meanTotal 1 (some .double) 0 := ⟨⟨W1027, W72, by decide +kernel, by decide +kernel, by decide +kernel⟩, W1025, W1026⟩
theorem ok_X4_maskedColumns : okV yX4_maskedColumns cX4_maskedColumns 3 (some .int) 0 := ⟨⟨W1040, W74, by decide +kernel, by decide +kernel, by decide +kernel⟩, W1038, W1039⟩
theorem ok_X8_maskedShare : okV yX8_maskedShare cX8_maskedShare 3 (some .float) 1 := ⟨⟨W1036, W72, by decide +kernel, by decide +kernel, by decide +kernel⟩, W1034, W1035⟩
theorem ok_X8_columnVolumesAgree : okV yX8_columnVolumesAgree cX8_columnVolumesAgree 3 (some .boolean) 0 := ⟨⟨W600, W72, by decide +kernel, by decide +kernel, by decide +kernel⟩, W599, W5⟩
theorem ok_X8_isConsistent : okV yX8_isConsistent cX8_isConsistent 1 (some .boolean) 0 := ⟨⟨W592, W72, by decide +kernel, by decide +kernel, by decide +kernel⟩, W590, W591⟩
theorem ok_X6_clear : okV yX6_clear cX6_clear 1 none 0 := ⟨⟨W1051, W77, by decide +kernel, by decide +kernel, by decide +kernel⟩, W1049, W1050⟩
theorem ok_X6_append : okV yX6_append cX6_append 2 none 1 := ⟨⟨W1055, W77, by decide +kernel, by decide +kernel, by decide +kernel⟩, W1053, W1054⟩
theorem ok_X8_digitSign : okS yX8_digitSign cX8_digitSign 1 (some .char) 1 := ⟨⟨W1058, W72, by decide +kernel, by decide +kernel, by decide +kernel⟩, W1057⟩
theorem ok_X8_renderScore : okV yX8_renderScore cX8_renderScore 5 (some .int) 1 := ⟨⟨W1047, W72, by decide +kernel, by decide +kernel, by decide +kernel⟩, W1045, W1046⟩
theorem ok_X8_renderMask : okV yX8_renderMask cX8_renderMask 4 (some .int) 1 := ⟨⟨W1065, W72, by decide +kernel, by decide +kernel, by decide +kernel⟩, W1063, W1064⟩
theorem ok_X6_has : okV yX6_has cX6_has 2 (some .boolean) 1 := ⟨⟨W1076, W77, by decide +kernel, by decide +kernel, by decide +kernel⟩, W1074, W1075⟩
theorem ok_X6_signAt : okV yX6_signAt cX6_signAt 2 (some .char) 1 := ⟨⟨W1081, W77, by decide +kernel, by decide +kernel, by decide +kernel⟩, W1079, W1080⟩
theorem ok_X8_outputAt : okV yX8_outputAt cX8_outputAt 2 (some .char) 1 := ⟨⟨W1072, W72, by decide +kernel, by decide +kernel, by decide +kernel⟩, W1070, W1071⟩
theorem ok_X6_isFull : okV yX6_isFull cX6_isFull 1 (some .boolean) 0 := ⟨⟨W1093, W77, by decide +kernel, by decide +kernel, by decide +kernel⟩, W1091, W1092⟩
theorem ok_X8_type : okV yX8_type cX8_type 2 (some .int) 1 := ⟨⟨W1088, W72, by decide +kernel, by decide +kernel, by decide +kernel⟩, W1086, W1087⟩
theorem ok_X1_begin : okV yX1_begin cX1_begin 2 none 1 := ⟨⟨W1173, W78, by decide +kernel, by decide +kernel, by decide +kernel⟩, W1171, W1172⟩
theorem ok_X1_put : okV yX1_put cX1_put 2 none 1 := ⟨⟨W1186, W78, by decide +kernel, by decide +kernel, by decide +kernel⟩, W1184, W1185⟩
theorem ok_X3_readKind : okV yX3_readKind cX3_readKind 3 (some .boolean) 1 := ⟨⟨W1181, W76, by decide +kernel, by decide +kernel, by decide +kernel⟩, W1179, W1180⟩
theorem ok_X3_takeDigit : okV yX3_takeDigit cX3_takeDigit 2 (some .int) 0 := ⟨⟨W1194, W76, by decide +kernel, by decide +kernel, by decide +kernel⟩, W1192, W1193⟩
theorem ok_X3_readDigit : okV yX3_readDigit cX3_readDigit 3 (some .boolean) 1 := ⟨⟨W1190, W76, by decide +kernel, by decide +kernel, by decide +kernel⟩, W1188, W1189⟩
theorem ok_X3_readNumber : okV yX3_readNumber cX3_readNumber 4 (some .boolean) 1 := ⟨⟨W1198, W76, by decide +kernel, by decide +kernel, by decide +kernel⟩, W1196, W1197⟩
theorem ok_X3_readSign : okV yX3_readSign cX3_readSign 3 (some .boolean) 1 := ⟨⟨W1202, W76, by decide +kernel, by decide +kernel, by decide +kernel⟩, W1200, W1201⟩
theorem ok_X3_take : okV yX3_take cX3_take 2 (some .boolean) 1 := ⟨⟨W1206, W76, by decide +kernel, by decide +kernel, by decide +kernel⟩, W1204, W1205⟩
theorem ok_X3_readPart : okV yX3_readPart cX3_readPart 3 (some .boolean) 2 := ⟨⟨W1177, W76, by decide +kernel, by decide +kernel, by decide +kernel⟩, W1175, W1176⟩
theorem ok_X1_valueAt : okV yX1_valueAt cX1_valueAt 2 (some .int) 1 := ⟨⟨W1215, W78, by decide +kernel, by decide +kernel, by decide +kernel⟩, W1213, W1214⟩
theorem ok_X2_putBack : okV yX2_putBack cX2_putBack 2 none 1 := ⟨⟨W1227, W75, by decide +kernel, by decide +kernel, by decide +kernel⟩, W1225, W1226⟩
theorem ok_X8_errorPosition : okV yX8_errorPosition cX8_errorPosition 1 (some .int) 0 := ⟨⟨W1235, W72, by decide +kernel, by decide +kernel, by decide +kernel⟩, W1233, W1234⟩
theorem ok_X8_failedCommand : okV yX8_failedCommand cX8_failedCommand 1 (some .int) 0 := ⟨⟨W1243, W72, by decide +kernel, by decide +kernel, by decide +kernel⟩, W1241, W1242⟩
theorem ok_X2_stepBack : okV yX2_stepBack cX2_stepBack 2 none 1 := ⟨⟨W1256, W75, by decide +kernel, by decide +kernel, by decide +kernel⟩, W1254, W1255⟩
theorem ok_X8_undo : okV yX8_undo cX8_undo 1 (some .int) 0 := ⟨⟨W1251, W72, by decide +kernel, by decide +kernel, by decide +kernel⟩, W1249, W1250⟩
theorem ok_X8_save : okV yX8_save cX8_save 1 (some .int) 0 := ⟨⟨W644, W72, by decide +kernel, by decide +kernel, by decide +kernel⟩, W642, W643⟩
theorem ok_X2_forget : okV yX2_forget cX2_forget 1 none 0 := ⟨⟨W1269, W75, by decide +kernel, by decide +kernel, by decide +kernel⟩, W1267, W1268⟩
theorem ok_X8_restore : okV yX8_restore cX8_restore 1 (some .int) 0 := ⟨⟨W1264, W72, by decide +kernel, by decide +kernel, by decide +kernel⟩, W1262, W1263⟩
theorem ok_X9_thrown : okV yX9_thrown cX9_thrown 1 (some .int) 0 := ⟨⟨W1273, W81, by decide +kernel, by decide +kernel, by decide +kernel⟩, W1271, W1272⟩
theorem ok_X9_fails : okV yX9_fails cX9_fails 2 (some .int) 1 := ⟨⟨W1355, W81, by decide +kernel, by decide +kernel, by decide +kernel⟩, W1354, W12⟩
theorem ok_X9_isBetween : okS yX9_isBetween cX9_isBetween 3 (some .boolean) 3 := ⟨⟨W1351, W81, by decide +kernel, by decide +kernel, by decide +kernel⟩, W1350⟩
theorem ok_X9_copies : okV yX9_copies cX9_copies 2 none 0 := ⟨⟨W1363, W81, by decide +kernel, by decide +kernel, by decide +kernel⟩, W1362, W14⟩
theorem ok_X9_goesBack : okV yX9_goesBack cX9_goesBack 2 none 0 := ⟨⟨W1800, W81, by decide +kernel, by decide +kernel, by decide +kernel⟩, W1799, W70⟩
theorem ok_X9_keeps : okV yX9_keeps cX9_keeps 3 none 0 := ⟨⟨W1367, W81, by decide +kernel, by decide +kernel, by decide +kernel⟩, W1366, W15⟩
theorem ok_X9_remembers : okV yX9_remembers cX9_remembers 1 none 0 := ⟨⟨W1359, W81, by decide +kernel, by decide +kernel, by decide +kernel⟩, W1358, W13⟩
theorem ok_X9_isSection : okV yX9_isSection cX9_isSection 2 (some .boolean) 1 := ⟨⟨W1383, W81, by decide +kernel, by decide +kernel, by decide +kernel⟩, W1382, W18⟩
theorem ok_X9_of : okV yX9_of cX9_of 3 (some .int) 2 := ⟨⟨W1403, W81, by decide +kernel, by decide +kernel, by decide +kernel⟩, W1402, W22⟩
theorem ok_X9_puts : okV yX9_puts cX9_puts 4 none 3 := ⟨⟨W1375, W81, by decide +kernel, by decide +kernel, by decide +kernel⟩, W1374, W17⟩
theorem ok_X9_noteAt : okV yX9_noteAt cX9_noteAt 4 (some .int) 3 := ⟨⟨W1411, W81, by decide +kernel, by decide +kernel, by decide +kernel⟩, W1410, W24⟩
theorem ok_X9_putsNote : okV yX9_putsNote cX9_putsNote 5 none 4 := ⟨⟨W1415, W81, by decide +kernel, by decide +kernel, by decide +kernel⟩, W1414, W25⟩
theorem ok_X9_isCell : okV yX9_isCell cX9_isCell 4 (some .boolean) 3 := ⟨⟨W1399, W81, by decide +kernel, by decide +kernel, by decide +kernel⟩, W1398, W21⟩
theorem ok_X9_isMaskedAt : okV yX9_isMaskedAt cX9_isMaskedAt 3 (some .boolean) 2 := ⟨⟨W1431, W81, by decide +kernel, by decide +kernel, by decide +kernel⟩, W1430, W28⟩
theorem ok_X9_kindOf : okS yX9_kindOf cX9_kindOf 1 (some .int) 1 := ⟨⟨W1348, W81, by decide +kernel, by decide +kernel, by decide +kernel⟩, W1347⟩
theorem ok_X9_letterOf : okS yX9_letterOf cX9_letterOf 1 (some .char) 1 := ⟨⟨W1558, W81, by decide +kernel, by decide +kernel, by decide +kernel⟩, W1557⟩
theorem ok_X9_volumeOf : okS yX9_volumeOf cX9_volumeOf 2 (some .int) 2 := ⟨⟨W1508, W81, by decide +kernel, by decide +kernel, by decide +kernel⟩, W1507⟩
theorem ok_X9_volumeOfColumn : okV yX9_volumeOfColumn cX9_volumeOfColumn 5 (some .int) 2 := ⟨⟨W1505, W81, by decide +kernel, by decide +kernel, by decide +kernel⟩, W1504, W39⟩
theorem ok_X9_notAdd : okV yX9_notAdd cX9_notAdd 4 (some .int) 3 := ⟨⟨W1345, W81, by decide +kernel, by decide +kernel, by decide +kernel⟩, W1344, W11⟩
theorem ok_X9_addsSection : okV yX9_addsSection cX9_addsSection 6 (some .int) 3 := ⟨⟨W1371, W81, by decide +kernel, by decide +kernel, by decide +kernel⟩, W1370, W16⟩
theorem ok_X9_addSection : okV yX9_addSection cX9_addSection 5 (some .int) 3 := ⟨⟨W1341, W81, by decide +kernel, by decide +kernel, by decide +kernel⟩, W1339, W1340⟩
theorem ok_X9_notSection : okV yX9_notSection cX9_notSection 2 (some .int) 1 := ⟨⟨W1792, W81, by decide +kernel, by decide +kernel, by decide +kernel⟩, W1791, W68⟩
theorem ok_X9_removesSection : okV yX9_removesSection cX9_removesSection 4 (some .int) 1 := ⟨⟨W1387, W81, by decide +kernel, by decide +kernel, by decide +kernel⟩, W1386, W19⟩
theorem ok_X9_removeSection : okV yX9_removeSection cX9_removeSection 2 (some .int) 1 := ⟨⟨W1379, W81, by decide +kernel, by decide +kernel, by decide +kernel⟩, W1377, W1378⟩
theorem ok_X9_notNote : okV yX9_notNote cX9_notNote 5 (some .int) 4 := ⟨⟨W1395, W81, by decide +kernel, by decide +kernel, by decide +kernel⟩, W1394, W20⟩
theorem ok_X9_setsNote : okV yX9_setsNote cX9_setsNote 6 (some .int) 4 := ⟨⟨W1407, W81, by decide +kernel, by decide +kernel, by decide +kernel⟩, W1406, W23⟩
theorem ok_X9_setNote : okV yX9_setNote cX9_setNote 6 (some .int) 4 := ⟨⟨W1391, W81, by decide +kernel, by decide +kernel, by decide +kernel⟩, W1389, W1390⟩
theorem ok_X9_notMask : okV yX9_notMask cX9_notMask 3 (some .int) 2 := ⟨⟨W1423, W81, by decide +kernel, by decide +kernel, by decide +kernel⟩, W1422, W26⟩
theorem ok_X9_setsMasked : okV yX9_setsMasked cX9_setsMasked 6 (some .int) 3 := ⟨⟨W1427, W81, by decide +kernel, by decide +kernel, by decide +kernel⟩, W1426, W27⟩
theorem ok_X9_setMasked : okV yX9_setMasked cX9_setMasked 5 (some .boolean) 3 := ⟨⟨W1419, W81, by decide +kernel, by decide +kernel, by decide +kernel⟩, W1417, W1418⟩
theorem ok_X9_transposes : okV yX9_transposes cX9_transposes 5 (some .int) 1 := ⟨⟨W1439, W81, by decide +kernel, by decide +kernel, by decide +kernel⟩, W1438, W29⟩
theorem ok_X9_transpose : okV yX9_transpose cX9_transpose 2 (some .int) 1 := ⟨⟨W1435, W81, by decide +kernel, by decide +kernel, by decide +kernel⟩, W1433, W1434⟩
theorem ok_X9_reverses : okV yX9_reverses cX9_reverses 8 (some .int) 1 := ⟨⟨W1447, W81, by decide +kernel, by decide +kernel, by decide +kernel⟩, W1446, W30⟩
theorem ok_X9_reverse : okV yX9_reverse cX9_reverse 2 (some .int) 1 := ⟨⟨W1443, W81, by decide +kernel, by decide +kernel, by decide +kernel⟩, W1441, W1442⟩
theorem ok_X9_notRaise : okV yX9_notRaise cX9_notRaise 4 (some .int) 2 := ⟨⟨W1455, W81, by decide +kernel, by decide +kernel, by decide +kernel⟩, W1454, W31⟩
theorem ok_X9_raises : okV yX9_raises cX9_raises 5 (some .int) 2 := ⟨⟨W1459, W81, by decide +kernel, by decide +kernel, by decide +kernel⟩, W1458, W32⟩
theorem ok_X9_raise : okV yX9_raise cX9_raise 4 (some .int) 2 := ⟨⟨W1451, W81, by decide +kernel, by decide +kernel, by decide +kernel⟩, W1449, W1450⟩
theorem ok_X9_notTempo : okS yX9_notTempo cX9_notTempo 1 (some .int) 1 := ⟨⟨W1466, W81, by decide +kernel, by decide +kernel, by decide +kernel⟩, W1465⟩
theorem ok_X9_sets : okV yX9_sets cX9_sets 4 (some .int) 2 := ⟨⟨W1470, W81, by decide +kernel, by decide +kernel, by decide +kernel⟩, W1469, W33⟩
theorem ok_X9_setTempo : okV yX9_setTempo cX9_setTempo 2 (some .int) 1 := ⟨⟨W1463, W81, by decide +kernel, by decide +kernel, by decide +kernel⟩, W1461, W1462⟩
theorem ok_X9_notLimit : okS yX9_notLimit cX9_notLimit 1 (some .int) 1 := ⟨⟨W1477, W81, by decide +kernel, by decide +kernel, by decide +kernel⟩, W1476⟩
theorem ok_X9_setLimit : okV yX9_setLimit cX9_setLimit 2 (some .int) 1 := ⟨⟨W1474, W81, by decide +kernel, by decide +kernel, by decide +kernel⟩, W1472, W1473⟩
theorem ok_X9_columnNow : okV yX9_columnNow cX9_columnNow 2 (some .int) 1 := ⟨⟨W1501, W81, by decide +kernel, by decide +kernel, by decide +kernel⟩, W1500, W38⟩
theorem ok_X9_plays : okV yX9_plays cX9_plays 2 (some .boolean) 1 := ⟨⟨W1497, W81, by decide +kernel, by decide +kernel, by decide +kernel⟩, W1496, W37⟩
theorem ok_X9_volumeNow : okV yX9_volumeNow cX9_volumeNow 2 (some .int) 1 := ⟨⟨W1493, W81, by decide +kernel, by decide +kernel, by decide +kernel⟩, W1492, W36⟩
theorem ok_X9_sounds : okV yX9_sounds cX9_sounds 5 none 2 := ⟨⟨W1512, W81, by decide +kernel, by decide +kernel, by decide +kernel⟩, W1511, W40⟩
theorem ok_X9_tires : okV yX9_tires cX9_tires 2 none 1 := ⟨⟨W1516, W81, by decide +kernel, by decide +kernel, by decide +kernel⟩, W1515, W41⟩
theorem ok_X9_logs : okV yX9_logs cX9_logs 3 none 1 := ⟨⟨W1520, W81, by decide +kernel, by decide +kernel, by decide +kernel⟩, W1519, W42⟩
theorem ok_X9_beats : okV yX9_beats cX9_beats 6 (some .int) 0 := ⟨⟨W1489, W81, by decide +kernel, by decide +kernel, by decide +kernel⟩, W1488, W35⟩
theorem ok_X9_beatsTimes : okV yX9_beatsTimes cX9_beatsTimes 4 (some .int) 1 := ⟨⟨W1485, W81, by decide +kernel, by decide +kernel, by decide +kernel⟩, W1484, W34⟩
theorem ok_X9_conductWave : okV yX9_conductWave cX9_conductWave 1 (some .int) 0 := ⟨⟨W1481, W81, by decide +kernel, by decide +kernel, by decide +kernel⟩, W1479, W1480⟩
theorem ok_X9_notBeats : okS yX9_notBeats cX9_notBeats 1 (some .int) 1 := ⟨⟨W1527, W81, by decide +kernel, by decide +kernel, by decide +kernel⟩, W1526⟩
theorem ok_X9_conductBeats : okV yX9_conductBeats cX9_conductBeats 2 (some .int) 1 := ⟨⟨W1524, W81, by decide +kernel, by decide +kernel, by decide +kernel⟩, W1522, W1523⟩
theorem ok_X9_asks : okV yX9_asks cX9_asks 2 (some .int) 1 := ⟨⟨W1535, W81, by decide +kernel, by decide +kernel, by decide +kernel⟩, W1534, W43⟩
theorem ok_X9_beatCount : okV yX9_beatCount cX9_beatCount 1 (some .int) 0 := ⟨⟨W1531, W81, by decide +kernel, by decide +kernel, by decide +kernel⟩, W1529, W1530⟩
theorem ok_X9_sectionCount : okV yX9_sectionCount cX9_sectionCount 1 (some .int) 0 := ⟨⟨W1539, W81, by decide +kernel, by decide +kernel, by decide +kernel⟩, W1537, W1538⟩
theorem ok_X9_tempo : okV yX9_tempo cX9_tempo 1 (some .int) 0 := ⟨⟨W1543, W81, by decide +kernel, by decide +kernel, by decide +kernel⟩, W1541, W1542⟩
theorem ok_X9_limit : okV yX9_limit cX9_limit 1 (some .int) 0 := ⟨⟨W1547, W81, by decide +kernel, by decide +kernel, by decide +kernel⟩, W1545, W1546⟩
theorem ok_X9_asksSection : okV yX9_asksSection cX9_asksSection 3 (some .int) 2 := ⟨⟨W1555, W81, by decide +kernel, by decide +kernel, by decide +kernel⟩, W1554, W44⟩
theorem ok_X9_kind : okV yX9_kind cX9_kind 3 (some .char) 1 := ⟨⟨W1551, W81, by decide +kernel, by decide +kernel, by decide +kernel⟩, W1549, W1550⟩
theorem ok_X9_rows : okV yX9_rows cX9_rows 2 (some .int) 1 := ⟨⟨W1562, W81, by decide +kernel, by decide +kernel, by decide +kernel⟩, W1560, W1561⟩
theorem ok_X9_columns : okV yX9_columns cX9_columns 2 (some .int) 1 := ⟨⟨W1566, W81, by decide +kernel, by decide +kernel, by decide +kernel⟩, W1564, W1565⟩
theorem ok_X9_note : okV yX9_note cX9_note 4 (some .int) 3 := ⟨⟨W1570, W81, by decide +kernel, by decide +kernel, by decide +kernel⟩, W1568, W1569⟩
theorem ok_X9_isMasked : okV yX9_isMasked cX9_isMasked 4 (some .boolean) 2 := ⟨⟨W1574, W81, by decide +kernel, by decide +kernel, by decide +kernel⟩, W1572, W1573⟩
theorem ok_X9_fatigue : okV yX9_fatigue cX9_fatigue 2 (some .int) 1 := ⟨⟨W1578, W81, by decide +kernel, by decide +kernel, by decide +kernel⟩, W1576, W1577⟩
theorem ok_X9_restingBeats : okV yX9_restingBeats cX9_restingBeats 2 (some .int) 1 := ⟨⟨W1582, W81, by decide +kernel, by decide +kernel, by decide +kernel⟩, W1580, W1581⟩
theorem ok_X9_isSymmetric : okV yX9_isSymmetric cX9_isSymmetric 4 (some .boolean) 1 := ⟨⟨W1586, W81, by decide +kernel, by decide +kernel, by decide +kernel⟩, W1584, W1585⟩
theorem ok_X9_areAlike : okV yX9_areAlike cX9_areAlike 4 (some .boolean) 2 := ⟨⟨W1590, W81, by decide +kernel, by decide +kernel, by decide +kernel⟩, W1588, W1589⟩
theorem ok_X9_noteVolume : okV yX9_noteVolume cX9_noteVolume 3 (some .int) 2 := ⟨⟨W1594, W81, by decide +kernel, by decide +kernel, by decide +kernel⟩, W1592, W1593⟩
theorem ok_X9_columnVolume : okV yX9_columnVolume cX9_columnVolume 3 (some .int) 2 := ⟨⟨W1598, W81, by decide +kernel, by decide +kernel, by decide +kernel⟩, W1596, W1597⟩
theorem ok_X9_columnVolumeByTransposing : okV yX9_columnVolumeByTransposing cX9_columnVolumeByTransposing 3 (some .int) 2 := ⟨⟨W1602, W81, by decide +kernel, by decide +kernel, by decide +kernel⟩, W1600, W1601⟩
theorem ok_X9_nextVolume : okV yX9_nextVolume cX9_nextVolume 2 (some .int) 1 := ⟨⟨W1607, W81, by decide +kernel, by decide +kernel, by decide +kernel⟩, W1605, W1606⟩
theorem ok_X9_nextTotal : okV yX9_nextTotal cX9_nextTotal 3 (some .int) 0 := ⟨⟨W1611, W81, by decide +kernel, by decide +kernel, by decide +kernel⟩, W1609, W1610⟩
theorem ok_X9_isPeriod : okV yX9_isPeriod cX9_isPeriod 3 (some .boolean) 1 := ⟨⟨W1619, W81, by decide +kernel, by decide +kernel, by decide +kernel⟩, W1618, W45⟩
theorem ok_X9_period : okV yX9_period cX9_period 2 (some .int) 0 := ⟨⟨W1615, W81, by decide +kernel, by decide +kernel, by decide +kernel⟩, W1613, W1614⟩
theorem ok_X9_periodBySearch : okV yX9_periodBySearch cX9_periodBySearch 1 (some .int) 0 := ⟨⟨W1623, W81, by decide +kernel, by decide +kernel, by decide +kernel⟩, W1621, W1622⟩
theorem ok_X9_looksAhead : okV yX9_looksAhead cX9_looksAhead 2 none 0 := ⟨⟨W1632, W81, by decide +kernel, by decide +kernel, by decide +kernel⟩, W1631, W46⟩
theorem ok_X9_looksBack : okV yX9_looksBack cX9_looksBack 2 none 0 := ⟨⟨W1636, W81, by decide +kernel, by decide +kernel, by decide +kernel⟩, W1635, W47⟩
theorem ok_X9_beatsUntilBreak : okV yX9_beatsUntilBreak cX9_beatsUntilBreak 4 (some .int) 0 := ⟨⟨W1628, W81, by decide +kernel, by decide +kernel, by decide +kernel⟩, W1626, W1627⟩
theorem ok_X9_totalWithin : okV yX9_totalWithin cX9_totalWithin 3 (some .int) 1 := ⟨⟨W1640, W81, by decide +kernel, by decide +kernel, by decide +kernel⟩, W1638, W1639⟩
theorem ok_X9_breakCount : okV yX9_breakCount cX9_breakCount 1 (some .int) 0 := ⟨⟨W1644, W81, by decide +kernel, by decide +kernel, by decide +kernel⟩, W1642, W1643⟩
theorem ok_X9_playedVolume : okV yX9_playedVolume cX9_playedVolume 2 (some .int) 1 := ⟨⟨W1648, W81, by decide +kernel, by decide +kernel, by decide +kernel⟩, W1646, W1647⟩
theorem ok_X9_totalVolume : okV yX9_totalVolume cX9_totalVolume 1 (some .long) 0 := ⟨⟨W1652, W81, by decide +kernel, by decide +kernel, by decide +kernel⟩, W1650, W1651⟩
theorem ok_X9_soundsOf : okV yX9_soundsOf cX9_soundsOf 3 (some .int) 2 := ⟨⟨W1664, W81, by decide +kernel, by decide +kernel, by decide +kernel⟩, W1663, W49⟩
theorem ok_X9_volumeBySounds : okV yX9_volumeBySounds cX9_volumeBySounds 4 (some .int) 0 := ⟨⟨W1660, W81, by decide +kernel, by decide +kernel, by decide +kernel⟩, W1659, W48⟩
theorem ok_X9_totalVolumeBySounds : okV yX9_totalVolumeBySounds cX9_totalVolumeBySounds 1 (some .long) 0 := ⟨⟨W1656, W81, by decide +kernel, by decide +kernel, by decide +kernel⟩, W1654, W1655⟩
theorem ok_X9_soundCount : okV yX9_soundCount cX9_soundCount 3 (some .int) 2 := ⟨⟨W1668, W81, by decide +kernel, by decide +kernel, by decide +kernel⟩, W1666, W1667⟩
theorem ok_X9_greatestTotal : okV yX9_greatestTotal cX9_greatestTotal 1 (some .int) 0 := ⟨⟨W1672, W81, by decide +kernel, by decide +kernel, by decide +kernel⟩, W1670, W1671⟩
theorem ok_X9_loggedTotal : okV yX9_loggedTotal cX9_loggedTotal 2 (some .int) 1 := ⟨⟨W1676, W81, by decide +kernel, by decide +kernel, by decide +kernel⟩, W1674, W1675⟩
theorem ok_X9_isAhead : okV yX9_isAhead cX9_isAhead 5 (some .boolean) 2 := ⟨⟨W1684, W81, by decide +kernel, by decide +kernel, by decide +kernel⟩, W1683, W50⟩
theorem ok_X9_sectionByVolume : okV yX9_sectionByVolume cX9_sectionByVolume 5 (some .int) 1 := ⟨⟨W1680, W81, by decide +kernel, by decide +kernel, by decide +kernel⟩, W1678, W1679⟩
theorem ok_X9_soundsAll : okV yX9_soundsAll cX9_soundsAll 2 (some .int) 1 := ⟨⟨W1692, W81, by decide +kernel, by decide +kernel, by decide +kernel⟩, W1691, W51⟩
theorem ok_X9_noteBySounds : okV yX9_noteBySounds cX9_noteBySounds 6 (some .int) 1 := ⟨⟨W1688, W81, by decide +kernel, by decide +kernel, by decide +kernel⟩, W1686, W1687⟩
theorem ok_X9_meanTotal : okV yX9_meanTotal cX9_meanTotal 1 (some .double) 0 := ⟨⟨W1696, W81, by decide +kernel, by decide +kernel, by decide +kernel⟩, W1694, W1695⟩
theorem ok_X9_maskedShare : okV yX9_maskedShare cX9_maskedShare 4 (some .float) 1 := ⟨⟨W1700, W81, by decide +kernel, by decide +kernel, by decide +kernel⟩, W1698, W1699⟩
theorem ok_X9_isConsistent : okV yX9_isConsistent cX9_isConsistent 1 (some .boolean) 0 := ⟨⟨W1704, W81, by decide +kernel, by decide +kernel, by decide +kernel⟩, W1702, W1703⟩
theorem ok_X9_writes : okV yX9_writes cX9_writes 2 none 1 := ⟨⟨W1712, W81, by decide +kernel, by decide +kernel, by decide +kernel⟩, W1711, W52⟩
theorem ok_X9_renderScore : okV yX9_renderScore cX9_renderScore 4 (some .int) 1 := ⟨⟨W1708, W81, by decide +kernel, by decide +kernel, by decide +kernel⟩, W1706, W1707⟩
theorem ok_X9_renderMask : okV yX9_renderMask cX9_renderMask 3 (some .int) 1 := ⟨⟨W1716, W81, by decide +kernel, by decide +kernel, by decide +kernel⟩, W1714, W1715⟩
theorem ok_X9_outputAt : okV yX9_outputAt cX9_outputAt 2 (some .char) 1 := ⟨⟨W1720, W81, by decide +kernel, by decide +kernel, by decide +kernel⟩, W1718, W1719⟩
theorem ok_X9_type : okV yX9_type cX9_type 2 (some .int) 1 := ⟨⟨W1724, W81, by decide +kernel, by decide +kernel, by decide +kernel⟩, W1722, W1723⟩
theorem ok_X9_nextChar : okV yX9_nextChar cX9_nextChar 1 (some .int) 0 := ⟨⟨W1740, W81, by decide +kernel, by decide +kernel, by decide +kernel⟩, W1739, W55⟩
theorem ok_X9_reads : okV yX9_reads cX9_reads 2 (some .boolean) 1 := ⟨⟨W1744, W81, by decide +kernel, by decide +kernel, by decide +kernel⟩, W1743, W56⟩
theorem ok_X9_readsDigit : okV yX9_readsDigit cX9_readsDigit 2 (some .boolean) 1 := ⟨⟨W1752, W81, by decide +kernel, by decide +kernel, by decide +kernel⟩, W1751, W58⟩
theorem ok_X9_readsNumber : okV yX9_readsNumber cX9_readsNumber 2 (some .boolean) 1 := ⟨⟨W1776, W81, by decide +kernel, by decide +kernel, by decide +kernel⟩, W1775, W64⟩
theorem ok_X9_readsSign : okV yX9_readsSign cX9_readsSign 2 (some .boolean) 1 := ⟨⟨W1764, W81, by decide +kernel, by decide +kernel, by decide +kernel⟩, W1763, W61⟩
theorem ok_X9_readsAdd : okV yX9_readsAdd cX9_readsAdd 1 (some .boolean) 0 := ⟨⟨W1748, W81, by decide +kernel, by decide +kernel, by decide +kernel⟩, W1747, W57⟩
theorem ok_X9_readsNote : okV yX9_readsNote cX9_readsNote 1 (some .boolean) 0 := ⟨⟨W1756, W81, by decide +kernel, by decide +kernel, by decide +kernel⟩, W1755, W59⟩
theorem ok_X9_readsMask : okV yX9_readsMask cX9_readsMask 1 (some .boolean) 0 := ⟨⟨W1760, W81, by decide +kernel, by decide +kernel, by decide +kernel⟩, W1759, W60⟩
theorem ok_X9_readsRaise : okV yX9_readsRaise cX9_readsRaise 1 (some .boolean) 0 := ⟨⟨W1772, W81, by decide +kernel, by decide +kernel, by decide +kernel⟩, W1771, W63⟩
theorem ok_X9_readsT : okV yX9_readsT cX9_readsT 1 (some .boolean) 0 := ⟨⟨W1768, W81, by decide +kernel, by decide +kernel, by decide +kernel⟩, W1767, W62⟩
theorem ok_X9_readsBeat : okV yX9_readsBeat cX9_readsBeat 1 (some .boolean) 0 := ⟨⟨W1780, W81, by decide +kernel, by decide +kernel, by decide +kernel⟩, W1779, W65⟩
theorem ok_X9_readsCommand : okV yX9_readsCommand cX9_readsCommand 1 (some .boolean) 0 := ⟨⟨W1736, W81, by decide +kernel, by decide +kernel, by decide +kernel⟩, W1735, W54⟩
theorem ok_X9_readsAll : okV yX9_readsAll cX9_readsAll 2 (some .boolean) 0 := ⟨⟨W1732, W81, by decide +kernel, by decide +kernel, by decide +kernel⟩, W1731, W53⟩
theorem ok_X9_notNow : okV yX9_notNow cX9_notNow 3 (some .int) 0 := ⟨⟨W1788, W81, by decide +kernel, by decide +kernel, by decide +kernel⟩, W1787, W67⟩
theorem ok_X9_doesNow : okV yX9_doesNow cX9_doesNow 3 (some .int) 0 := ⟨⟨W1796, W81, by decide +kernel, by decide +kernel, by decide +kernel⟩, W1795, W69⟩
theorem ok_X9_doesAll : okV yX9_doesAll cX9_doesAll 2 (some .boolean) 0 := ⟨⟨W1784, W81, by decide +kernel, by decide +kernel, by decide +kernel⟩, W1783, W66⟩
theorem ok_X9_runScript : okV yX9_runScript cX9_runScript 2 (some .int) 0 := ⟨⟨W1728, W81, by decide +kernel, by decide +kernel, by decide +kernel⟩, W1726, W1727⟩
theorem ok_X9_errorPosition : okV yX9_errorPosition cX9_errorPosition 1 (some .int) 0 := ⟨⟨W1804, W81, by decide +kernel, by decide +kernel, by decide +kernel⟩, W1802, W1803⟩
theorem ok_X9_failedCommand : okV yX9_failedCommand cX9_failedCommand 1 (some .int) 0 := ⟨⟨W1808, W81, by decide +kernel, by decide +kernel, by decide +kernel⟩, W1806, W1807⟩
theorem ok_X9_undo : okV yX9_undo cX9_undo 3 (some .int) 0 := ⟨⟨W1812, W81, by decide +kernel, by decide +kernel, by decide +kernel⟩, W1810, W1811⟩
theorem ok_X9_save : okV yX9_save cX9_save 2 (some .int) 0 := ⟨⟨W1816, W81, by decide +kernel, by decide +kernel, by decide +kernel⟩, W1814, W1815⟩
theorem ok_X9_restore : okV yX9_restore cX9_restore 2 (some .int) 0 := ⟨⟨W1820, W81, by decide +kernel, by decide +kernel, by decide +kernel⟩, W1818, W1819⟩
theorem N354 : (RX5, 58, yX8_kindIndex, RX8) ∈ NEST := nest_mem (i := 354) (by decide +kernel)
theorem N659 : (RX5, 62, yX8_isSide, RX8) ∈ NEST := nest_mem (i := 659) (by decide +kernel)
theorem N727 : (RX5, 85, yX8_isMaskColumn, RX8) ∈ NEST := nest_mem (i := 727) (by decide +kernel)
theorem N361 : (RX4, 63, yX8_volumeOf, RX8) ∈ NEST := nest_mem (i := 361) (by decide +kernel)
theorem N1182 : (RX3, 106, yX8_kindIndex, RX8) ∈ NEST := nest_mem (i := 1182) (by decide +kernel)
theorem okT0 : okT RX8 362 366 364 "java/lang/UnsupportedOperationException" "a note would not be between 1 and 9" ["java/lang/RuntimeException", "java/lang/Exception"] := ⟨by decide +kernel, by decide +kernel, W483, W89, str_mem (i := 492) (by decide +kernel), by decide +kernel, by decide +kernel⟩
theorem okT1 : okT RX8 311 315 360 "java/lang/IllegalStateException" "there are 5 sections" ["java/lang/RuntimeException", "java/lang/Exception"] := ⟨by decide +kernel, by decide +kernel, W467, W88, str_mem (i := 476) (by decide +kernel), by decide +kernel, by decide +kernel⟩
theorem okT2 : okT RX8 150 154 358 "java/lang/IllegalArgumentException" "an argument is out of its range" ["java/lang/RuntimeException", "java/lang/Exception"] := ⟨by decide +kernel, by decide +kernel, W451, W87, str_mem (i := 460) (by decide +kernel), by decide +kernel, by decide +kernel⟩
theorem okT3 : okT RX8 137 141 356 "java/lang/IndexOutOfBoundsException" "no such section, row or column" ["java/lang/RuntimeException", "java/lang/Exception"] := ⟨by decide +kernel, by decide +kernel, W379, W86, str_mem (i := 424) (by decide +kernel), by decide +kernel, by decide +kernel⟩
theorem okT4 : okT RX8 137 141 370 "java/lang/IndexOutOfBoundsException" "no such section" ["java/lang/RuntimeException", "java/lang/Exception"] := ⟨by decide +kernel, by decide +kernel, W379, W86, str_mem (i := 538) (by decide +kernel), by decide +kernel, by decide +kernel⟩
theorem okT5 : okT RX8 137 141 139 "java/lang/IndexOutOfBoundsException" "no such row or column" ["java/lang/RuntimeException", "java/lang/Exception"] := ⟨by decide +kernel, by decide +kernel, W379, W86, str_mem (i := 840) (by decide +kernel), by decide +kernel, by decide +kernel⟩
theorem okT6 : okT RX8 150 154 152 "java/lang/IllegalArgumentException" "no such column number" ["java/lang/RuntimeException", "java/lang/Exception"] := ⟨by decide +kernel, by decide +kernel, W451, W87, str_mem (i := 850) (by decide +kernel), by decide +kernel, by decide +kernel⟩
theorem okT7 : okT RX8 150 154 178 "java/lang/IllegalArgumentException" "no such kind or note" ["java/lang/RuntimeException", "java/lang/Exception"] := ⟨by decide +kernel, by decide +kernel, W451, W87, str_mem (i := 892) (by decide +kernel), by decide +kernel, by decide +kernel⟩
theorem okT8 : okT RX8 137 141 379 "java/lang/IndexOutOfBoundsException" "no such column" ["java/lang/RuntimeException", "java/lang/Exception"] := ⟨by decide +kernel, by decide +kernel, W379, W86, str_mem (i := 613) (by decide +kernel), by decide +kernel, by decide +kernel⟩
theorem okT9 : okT RX8 214 218 216 "java/util/NoSuchElementException" "the wave does not break within 60 beats" ["java/lang/RuntimeException", "java/lang/Exception"] := ⟨by decide +kernel, by decide +kernel, W914, W93, str_mem (i := 923) (by decide +kernel), by decide +kernel, by decide +kernel⟩
theorem okT10 : okT RX8 150 154 219 "java/lang/IllegalArgumentException" "beats not between 0 and 60" ["java/lang/RuntimeException", "java/lang/Exception"] := ⟨by decide +kernel, by decide +kernel, W451, W87, str_mem (i := 937) (by decide +kernel), by decide +kernel, by decide +kernel⟩
theorem okT11 : okT RX8 214 218 238 "java/util/NoSuchElementException" "no beat so far" ["java/lang/RuntimeException", "java/lang/Exception"] := ⟨by decide +kernel, by decide +kernel, W914, W93, str_mem (i := 959) (by decide +kernel), by decide +kernel, by decide +kernel⟩
theorem okT12 : okT RX8 214 218 243 "java/util/NoSuchElementException" "no such beat in the log" ["java/lang/RuntimeException", "java/lang/Exception"] := ⟨by decide +kernel, by decide +kernel, W914, W93, str_mem (i := 967) (by decide +kernel), by decide +kernel, by decide +kernel⟩
theorem okT13 : okT RX8 214 218 251 "java/util/NoSuchElementException" "no section has this rank" ["java/lang/RuntimeException", "java/lang/Exception"] := ⟨by decide +kernel, by decide +kernel, W914, W93, str_mem (i := 989) (by decide +kernel), by decide +kernel, by decide +kernel⟩
theorem okT14 : okT RX8 214 218 256 "java/util/NoSuchElementException" "no note has this rank" ["java/lang/RuntimeException", "java/lang/Exception"] := ⟨by decide +kernel, by decide +kernel, W914, W93, str_mem (i := 1006) (by decide +kernel), by decide +kernel, by decide +kernel⟩
theorem okT15 : okT RX8 258 260 238 "java/lang/ArithmeticException" "no beat so far" ["java/lang/RuntimeException", "java/lang/Exception"] := ⟨by decide +kernel, by decide +kernel, W1028, W94, str_mem (i := 959) (by decide +kernel), by decide +kernel, by decide +kernel⟩
theorem okT16 : okT RX8 137 141 298 "java/lang/IndexOutOfBoundsException" "no such index in the output text" ["java/lang/RuntimeException", "java/lang/Exception"] := ⟨by decide +kernel, by decide +kernel, W379, W86, str_mem (i := 1077) (by decide +kernel), by decide +kernel, by decide +kernel⟩
theorem okT17 : okT RX8 150 154 303 "java/lang/IllegalArgumentException" "character code not between 32 and 126" ["java/lang/RuntimeException", "java/lang/Exception"] := ⟨by decide +kernel, by decide +kernel, W451, W87, str_mem (i := 1089) (by decide +kernel), by decide +kernel, by decide +kernel⟩
theorem okT18 : okT RX8 311 315 313 "java/lang/IllegalStateException" "the script buffer is full" ["java/lang/RuntimeException", "java/lang/Exception"] := ⟨by decide +kernel, by decide +kernel, W467, W88, str_mem (i := 1094) (by decide +kernel), by decide +kernel, by decide +kernel⟩
theorem okT19 : okT RX8 214 218 341 "java/util/NoSuchElementException" "no script without the required form" ["java/lang/RuntimeException", "java/lang/Exception"] := ⟨by decide +kernel, by decide +kernel, W914, W93, str_mem (i := 1236) (by decide +kernel), by decide +kernel, by decide +kernel⟩
theorem okT20 : okT RX8 214 218 343 "java/util/NoSuchElementException" "no script with a failed command" ["java/lang/RuntimeException", "java/lang/Exception"] := ⟨by decide +kernel, by decide +kernel, W914, W93, str_mem (i := 1244) (by decide +kernel), by decide +kernel, by decide +kernel⟩
theorem okT21 : okT RX8 311 315 346 "java/lang/IllegalStateException" "nothing to undo" ["java/lang/RuntimeException", "java/lang/Exception"] := ⟨by decide +kernel, by decide +kernel, W467, W88, str_mem (i := 1252) (by decide +kernel), by decide +kernel, by decide +kernel⟩
theorem okT22 : okT RX8 311 315 351 "java/lang/IllegalStateException" "no snapshot" ["java/lang/RuntimeException", "java/lang/Exception"] := ⟨by decide +kernel, by decide +kernel, W467, W88, str_mem (i := 1265) (by decide +kernel), by decide +kernel, by decide +kernel⟩
