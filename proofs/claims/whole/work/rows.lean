section
-- ===== PART A: goes FIRST, ahead of the names: the tables' words, and 'selects' of the private methods out of them =====
/-- a private method of a class that the tables say can be made, by its rows of tables_1 -/
def lw_okq (q : MethodName × Nat) : Prop := (q.1.cls ≠ "java/lang/invoke/MethodHandle" ∧ q.1.cls ≠ "java/lang/invoke/VarHandle") ∧ Cond.instantiable q.1.cls q.2 ∈ tables_1 ∧ Cond.privateMethod q.1 ∈ tables_1 ∧ Cond.instanceMethod q.1 ∈ tables_1
theorem lw_p0 : lw_okq (⟨"ScoreOrchestra", "settled", "(I)I"⟩, 10) := ⟨⟨by decide +kernel, by decide +kernel⟩, List.mem_of_getElem? (i := 29) (by decide +kernel), List.mem_of_getElem? (i := 305) (by decide +kernel), List.mem_of_getElem? (i := 306) (by decide +kernel)⟩
theorem lw_p1 : lw_okq (⟨"java/lang/Throwable", "fillInStackTrace", "(I)Ljava/lang/Throwable;"⟩, 6) := ⟨⟨by decide +kernel, by decide +kernel⟩, List.mem_of_getElem? (i := 351) (by decide +kernel), List.mem_of_getElem? (i := 349) (by decide +kernel), List.mem_of_getElem? (i := 350) (by decide +kernel)⟩
theorem lw_p2 : lw_okq (⟨"ScoreOrchestra", "presentSection", "(I)LScoreOrchestra$Section;"⟩, 10) := ⟨⟨by decide +kernel, by decide +kernel⟩, List.mem_of_getElem? (i := 29) (by decide +kernel), List.mem_of_getElem? (i := 460) (by decide +kernel), List.mem_of_getElem? (i := 461) (by decide +kernel)⟩
theorem lw_p3 : lw_okq (⟨"ScoreOrchestra", "isPeriod", "(I)Z"⟩, 10) := ⟨⟨by decide +kernel, by decide +kernel⟩, List.mem_of_getElem? (i := 29) (by decide +kernel), List.mem_of_getElem? (i := 494) (by decide +kernel), List.mem_of_getElem? (i := 495) (by decide +kernel)⟩
theorem lw_p4 : lw_okq (⟨"ScoreOrchestra", "soundsVolume", "(C)J"⟩, 10) := ⟨⟨by decide +kernel, by decide +kernel⟩, List.mem_of_getElem? (i := 29) (by decide +kernel), List.mem_of_getElem? (i := 510) (by decide +kernel), List.mem_of_getElem? (i := 511) (by decide +kernel)⟩
theorem lw_p5 : lw_okq (⟨"ScoreOrchestra", "columnVolumesAgree", "()Z"⟩, 10) := ⟨⟨by decide +kernel, by decide +kernel⟩, List.mem_of_getElem? (i := 29) (by decide +kernel), List.mem_of_getElem? (i := 527) (by decide +kernel), List.mem_of_getElem? (i := 528) (by decide +kernel)⟩
theorem lw_p6 : lw_okq (⟨"ScoreOrchestra", "sectionWithColumn", "(II)LScoreOrchestra$Section;"⟩, 10) := ⟨⟨by decide +kernel, by decide +kernel⟩, List.mem_of_getElem? (i := 29) (by decide +kernel), List.mem_of_getElem? (i := 535) (by decide +kernel), List.mem_of_getElem? (i := 536) (by decide +kernel)⟩
theorem lw_p7 : lw_okq (⟨"ScoreOrchestra", "sectionRank", "(I)I"⟩, 10) := ⟨⟨by decide +kernel, by decide +kernel⟩, List.mem_of_getElem? (i := 29) (by decide +kernel), List.mem_of_getElem? (i := 909) (by decide +kernel), List.mem_of_getElem? (i := 910) (by decide +kernel)⟩
theorem lw_p8 : lw_okq (⟨"ScoreOrchestra", "precedes", "(II)Z"⟩, 10) := ⟨⟨by decide +kernel, by decide +kernel⟩, List.mem_of_getElem? (i := 29) (by decide +kernel), List.mem_of_getElem? (i := 913) (by decide +kernel), List.mem_of_getElem? (i := 914) (by decide +kernel)⟩
theorem lw_p9 : lw_okq (⟨"ScoreOrchestra", "noteRank", "(I)I"⟩, 10) := ⟨⟨by decide +kernel, by decide +kernel⟩, List.mem_of_getElem? (i := 29) (by decide +kernel), List.mem_of_getElem? (i := 927) (by decide +kernel), List.mem_of_getElem? (i := 928) (by decide +kernel)⟩
theorem lw_p10 : lw_okq (⟨"ScoreOrchestra", "perform", "(LScoreOrchestra$Command;)I"⟩, 10) := ⟨⟨by decide +kernel, by decide +kernel⟩, List.mem_of_getElem? (i := 29) (by decide +kernel), List.mem_of_getElem? (i := 1138) (by decide +kernel), List.mem_of_getElem? (i := 1139) (by decide +kernel)⟩
theorem lw_p11 : lw_okq (⟨"ScoreOrchestraModel", "notAdd", "(III)I"⟩, 19) := ⟨⟨by decide +kernel, by decide +kernel⟩, List.mem_of_getElem? (i := 1204) (by decide +kernel), List.mem_of_getElem? (i := 1272) (by decide +kernel), List.mem_of_getElem? (i := 1273) (by decide +kernel)⟩
theorem lw_p12 : lw_okq (⟨"ScoreOrchestraModel", "fails", "(I)I"⟩, 19) := ⟨⟨by decide +kernel, by decide +kernel⟩, List.mem_of_getElem? (i := 1204) (by decide +kernel), List.mem_of_getElem? (i := 1282) (by decide +kernel), List.mem_of_getElem? (i := 1283) (by decide +kernel)⟩
theorem lw_p13 : lw_okq (⟨"ScoreOrchestraModel", "remembers", "()V"⟩, 19) := ⟨⟨by decide +kernel, by decide +kernel⟩, List.mem_of_getElem? (i := 1204) (by decide +kernel), List.mem_of_getElem? (i := 1286) (by decide +kernel), List.mem_of_getElem? (i := 1287) (by decide +kernel)⟩
theorem lw_p14 : lw_okq (⟨"ScoreOrchestraModel", "copies", "()V"⟩, 19) := ⟨⟨by decide +kernel, by decide +kernel⟩, List.mem_of_getElem? (i := 1204) (by decide +kernel), List.mem_of_getElem? (i := 1290) (by decide +kernel), List.mem_of_getElem? (i := 1291) (by decide +kernel)⟩
theorem lw_p15 : lw_okq (⟨"ScoreOrchestraModel", "keeps", "()V"⟩, 19) := ⟨⟨by decide +kernel, by decide +kernel⟩, List.mem_of_getElem? (i := 1204) (by decide +kernel), List.mem_of_getElem? (i := 1294) (by decide +kernel), List.mem_of_getElem? (i := 1295) (by decide +kernel)⟩
def lw_privs_1 : List (MethodName × Nat) := [(⟨"ScoreOrchestra", "settled", "(I)I"⟩, 10), (⟨"java/lang/Throwable", "fillInStackTrace", "(I)Ljava/lang/Throwable;"⟩, 6), (⟨"ScoreOrchestra", "presentSection", "(I)LScoreOrchestra$Section;"⟩, 10), (⟨"ScoreOrchestra", "isPeriod", "(I)Z"⟩, 10), (⟨"ScoreOrchestra", "soundsVolume", "(C)J"⟩, 10), (⟨"ScoreOrchestra", "columnVolumesAgree", "()Z"⟩, 10), (⟨"ScoreOrchestra", "sectionWithColumn", "(II)LScoreOrchestra$Section;"⟩, 10), (⟨"ScoreOrchestra", "sectionRank", "(I)I"⟩, 10), (⟨"ScoreOrchestra", "precedes", "(II)Z"⟩, 10), (⟨"ScoreOrchestra", "noteRank", "(I)I"⟩, 10), (⟨"ScoreOrchestra", "perform", "(LScoreOrchestra$Command;)I"⟩, 10), (⟨"ScoreOrchestraModel", "notAdd", "(III)I"⟩, 19), (⟨"ScoreOrchestraModel", "fails", "(I)I"⟩, 19), (⟨"ScoreOrchestraModel", "remembers", "()V"⟩, 19), (⟨"ScoreOrchestraModel", "copies", "()V"⟩, 19), (⟨"ScoreOrchestraModel", "keeps", "()V"⟩, 19)]
theorem lw_r1 : ∀ q ∈ lw_privs_1, lw_okq q := List.forall_mem_cons.mpr ⟨lw_p0, List.forall_mem_cons.mpr ⟨lw_p1, List.forall_mem_cons.mpr ⟨lw_p2, List.forall_mem_cons.mpr ⟨lw_p3, List.forall_mem_cons.mpr ⟨lw_p4, List.forall_mem_cons.mpr ⟨lw_p5, List.forall_mem_cons.mpr ⟨lw_p6, List.forall_mem_cons.mpr ⟨lw_p7, List.forall_mem_cons.mpr ⟨lw_p8, List.forall_mem_cons.mpr ⟨lw_p9, List.forall_mem_cons.mpr ⟨lw_p10, List.forall_mem_cons.mpr ⟨lw_p11, List.forall_mem_cons.mpr ⟨lw_p12, List.forall_mem_cons.mpr ⟨lw_p13, List.forall_mem_cons.mpr ⟨lw_p14, List.forall_mem_cons.mpr ⟨lw_p15, fun _ h => absurd h List.not_mem_nil⟩⟩⟩⟩⟩⟩⟩⟩⟩⟩⟩⟩⟩⟩⟩⟩
theorem lw_p16 : lw_okq (⟨"ScoreOrchestraModel", "addsSection", "(III)I"⟩, 19) := ⟨⟨by decide +kernel, by decide +kernel⟩, List.mem_of_getElem? (i := 1204) (by decide +kernel), List.mem_of_getElem? (i := 1298) (by decide +kernel), List.mem_of_getElem? (i := 1299) (by decide +kernel)⟩
theorem lw_p17 : lw_okq (⟨"ScoreOrchestraModel", "puts", "(III)V"⟩, 19) := ⟨⟨by decide +kernel, by decide +kernel⟩, List.mem_of_getElem? (i := 1204) (by decide +kernel), List.mem_of_getElem? (i := 1302) (by decide +kernel), List.mem_of_getElem? (i := 1303) (by decide +kernel)⟩
theorem lw_p18 : lw_okq (⟨"ScoreOrchestraModel", "isSection", "(I)Z"⟩, 19) := ⟨⟨by decide +kernel, by decide +kernel⟩, List.mem_of_getElem? (i := 1204) (by decide +kernel), List.mem_of_getElem? (i := 1310) (by decide +kernel), List.mem_of_getElem? (i := 1311) (by decide +kernel)⟩
theorem lw_p19 : lw_okq (⟨"ScoreOrchestraModel", "removesSection", "(I)I"⟩, 19) := ⟨⟨by decide +kernel, by decide +kernel⟩, List.mem_of_getElem? (i := 1204) (by decide +kernel), List.mem_of_getElem? (i := 1314) (by decide +kernel), List.mem_of_getElem? (i := 1315) (by decide +kernel)⟩
theorem lw_p20 : lw_okq (⟨"ScoreOrchestraModel", "notNote", "(IIII)I"⟩, 19) := ⟨⟨by decide +kernel, by decide +kernel⟩, List.mem_of_getElem? (i := 1204) (by decide +kernel), List.mem_of_getElem? (i := 1322) (by decide +kernel), List.mem_of_getElem? (i := 1323) (by decide +kernel)⟩
theorem lw_p21 : lw_okq (⟨"ScoreOrchestraModel", "isCell", "(III)Z"⟩, 19) := ⟨⟨by decide +kernel, by decide +kernel⟩, List.mem_of_getElem? (i := 1204) (by decide +kernel), List.mem_of_getElem? (i := 1326) (by decide +kernel), List.mem_of_getElem? (i := 1327) (by decide +kernel)⟩
theorem lw_p22 : lw_okq (⟨"ScoreOrchestraModel", "of", "(II)I"⟩, 19) := ⟨⟨by decide +kernel, by decide +kernel⟩, List.mem_of_getElem? (i := 1204) (by decide +kernel), List.mem_of_getElem? (i := 1330) (by decide +kernel), List.mem_of_getElem? (i := 1331) (by decide +kernel)⟩
theorem lw_p23 : lw_okq (⟨"ScoreOrchestraModel", "setsNote", "(IIII)I"⟩, 19) := ⟨⟨by decide +kernel, by decide +kernel⟩, List.mem_of_getElem? (i := 1204) (by decide +kernel), List.mem_of_getElem? (i := 1334) (by decide +kernel), List.mem_of_getElem? (i := 1335) (by decide +kernel)⟩
theorem lw_p24 : lw_okq (⟨"ScoreOrchestraModel", "noteAt", "(III)I"⟩, 19) := ⟨⟨by decide +kernel, by decide +kernel⟩, List.mem_of_getElem? (i := 1204) (by decide +kernel), List.mem_of_getElem? (i := 1338) (by decide +kernel), List.mem_of_getElem? (i := 1339) (by decide +kernel)⟩
theorem lw_p25 : lw_okq (⟨"ScoreOrchestraModel", "putsNote", "(IIII)V"⟩, 19) := ⟨⟨by decide +kernel, by decide +kernel⟩, List.mem_of_getElem? (i := 1204) (by decide +kernel), List.mem_of_getElem? (i := 1342) (by decide +kernel), List.mem_of_getElem? (i := 1343) (by decide +kernel)⟩
theorem lw_p26 : lw_okq (⟨"ScoreOrchestraModel", "notMask", "(II)I"⟩, 19) := ⟨⟨by decide +kernel, by decide +kernel⟩, List.mem_of_getElem? (i := 1204) (by decide +kernel), List.mem_of_getElem? (i := 1350) (by decide +kernel), List.mem_of_getElem? (i := 1351) (by decide +kernel)⟩
theorem lw_p27 : lw_okq (⟨"ScoreOrchestraModel", "setsMasked", "(III)I"⟩, 19) := ⟨⟨by decide +kernel, by decide +kernel⟩, List.mem_of_getElem? (i := 1204) (by decide +kernel), List.mem_of_getElem? (i := 1354) (by decide +kernel), List.mem_of_getElem? (i := 1355) (by decide +kernel)⟩
theorem lw_p28 : lw_okq (⟨"ScoreOrchestraModel", "isMaskedAt", "(II)Z"⟩, 19) := ⟨⟨by decide +kernel, by decide +kernel⟩, List.mem_of_getElem? (i := 1204) (by decide +kernel), List.mem_of_getElem? (i := 1358) (by decide +kernel), List.mem_of_getElem? (i := 1359) (by decide +kernel)⟩
theorem lw_p29 : lw_okq (⟨"ScoreOrchestraModel", "transposes", "(I)I"⟩, 19) := ⟨⟨by decide +kernel, by decide +kernel⟩, List.mem_of_getElem? (i := 1204) (by decide +kernel), List.mem_of_getElem? (i := 1366) (by decide +kernel), List.mem_of_getElem? (i := 1367) (by decide +kernel)⟩
theorem lw_p30 : lw_okq (⟨"ScoreOrchestraModel", "reverses", "(I)I"⟩, 19) := ⟨⟨by decide +kernel, by decide +kernel⟩, List.mem_of_getElem? (i := 1204) (by decide +kernel), List.mem_of_getElem? (i := 1374) (by decide +kernel), List.mem_of_getElem? (i := 1375) (by decide +kernel)⟩
theorem lw_p31 : lw_okq (⟨"ScoreOrchestraModel", "notRaise", "(II)I"⟩, 19) := ⟨⟨by decide +kernel, by decide +kernel⟩, List.mem_of_getElem? (i := 1204) (by decide +kernel), List.mem_of_getElem? (i := 1382) (by decide +kernel), List.mem_of_getElem? (i := 1383) (by decide +kernel)⟩
def lw_privs_2 : List (MethodName × Nat) := [(⟨"ScoreOrchestraModel", "addsSection", "(III)I"⟩, 19), (⟨"ScoreOrchestraModel", "puts", "(III)V"⟩, 19), (⟨"ScoreOrchestraModel", "isSection", "(I)Z"⟩, 19), (⟨"ScoreOrchestraModel", "removesSection", "(I)I"⟩, 19), (⟨"ScoreOrchestraModel", "notNote", "(IIII)I"⟩, 19), (⟨"ScoreOrchestraModel", "isCell", "(III)Z"⟩, 19), (⟨"ScoreOrchestraModel", "of", "(II)I"⟩, 19), (⟨"ScoreOrchestraModel", "setsNote", "(IIII)I"⟩, 19), (⟨"ScoreOrchestraModel", "noteAt", "(III)I"⟩, 19), (⟨"ScoreOrchestraModel", "putsNote", "(IIII)V"⟩, 19), (⟨"ScoreOrchestraModel", "notMask", "(II)I"⟩, 19), (⟨"ScoreOrchestraModel", "setsMasked", "(III)I"⟩, 19), (⟨"ScoreOrchestraModel", "isMaskedAt", "(II)Z"⟩, 19), (⟨"ScoreOrchestraModel", "transposes", "(I)I"⟩, 19), (⟨"ScoreOrchestraModel", "reverses", "(I)I"⟩, 19), (⟨"ScoreOrchestraModel", "notRaise", "(II)I"⟩, 19)]
theorem lw_r2 : ∀ q ∈ lw_privs_2, lw_okq q := List.forall_mem_cons.mpr ⟨lw_p16, List.forall_mem_cons.mpr ⟨lw_p17, List.forall_mem_cons.mpr ⟨lw_p18, List.forall_mem_cons.mpr ⟨lw_p19, List.forall_mem_cons.mpr ⟨lw_p20, List.forall_mem_cons.mpr ⟨lw_p21, List.forall_mem_cons.mpr ⟨lw_p22, List.forall_mem_cons.mpr ⟨lw_p23, List.forall_mem_cons.mpr ⟨lw_p24, List.forall_mem_cons.mpr ⟨lw_p25, List.forall_mem_cons.mpr ⟨lw_p26, List.forall_mem_cons.mpr ⟨lw_p27, List.forall_mem_cons.mpr ⟨lw_p28, List.forall_mem_cons.mpr ⟨lw_p29, List.forall_mem_cons.mpr ⟨lw_p30, List.forall_mem_cons.mpr ⟨lw_p31, fun _ h => absurd h List.not_mem_nil⟩⟩⟩⟩⟩⟩⟩⟩⟩⟩⟩⟩⟩⟩⟩⟩
theorem lw_p32 : lw_okq (⟨"ScoreOrchestraModel", "raises", "(II)I"⟩, 19) := ⟨⟨by decide +kernel, by decide +kernel⟩, List.mem_of_getElem? (i := 1204) (by decide +kernel), List.mem_of_getElem? (i := 1386) (by decide +kernel), List.mem_of_getElem? (i := 1387) (by decide +kernel)⟩
theorem lw_p33 : lw_okq (⟨"ScoreOrchestraModel", "sets", "(II)I"⟩, 19) := ⟨⟨by decide +kernel, by decide +kernel⟩, List.mem_of_getElem? (i := 1204) (by decide +kernel), List.mem_of_getElem? (i := 1397) (by decide +kernel), List.mem_of_getElem? (i := 1398) (by decide +kernel)⟩
theorem lw_p34 : lw_okq (⟨"ScoreOrchestraModel", "beatsTimes", "(I)I"⟩, 19) := ⟨⟨by decide +kernel, by decide +kernel⟩, List.mem_of_getElem? (i := 1204) (by decide +kernel), List.mem_of_getElem? (i := 1412) (by decide +kernel), List.mem_of_getElem? (i := 1413) (by decide +kernel)⟩
theorem lw_p35 : lw_okq (⟨"ScoreOrchestraModel", "beats", "()I"⟩, 19) := ⟨⟨by decide +kernel, by decide +kernel⟩, List.mem_of_getElem? (i := 1204) (by decide +kernel), List.mem_of_getElem? (i := 1416) (by decide +kernel), List.mem_of_getElem? (i := 1417) (by decide +kernel)⟩
theorem lw_p36 : lw_okq (⟨"ScoreOrchestraModel", "volumeNow", "(I)I"⟩, 19) := ⟨⟨by decide +kernel, by decide +kernel⟩, List.mem_of_getElem? (i := 1204) (by decide +kernel), List.mem_of_getElem? (i := 1420) (by decide +kernel), List.mem_of_getElem? (i := 1421) (by decide +kernel)⟩
theorem lw_p37 : lw_okq (⟨"ScoreOrchestraModel", "plays", "(I)Z"⟩, 19) := ⟨⟨by decide +kernel, by decide +kernel⟩, List.mem_of_getElem? (i := 1204) (by decide +kernel), List.mem_of_getElem? (i := 1424) (by decide +kernel), List.mem_of_getElem? (i := 1425) (by decide +kernel)⟩
theorem lw_p38 : lw_okq (⟨"ScoreOrchestraModel", "columnNow", "(I)I"⟩, 19) := ⟨⟨by decide +kernel, by decide +kernel⟩, List.mem_of_getElem? (i := 1204) (by decide +kernel), List.mem_of_getElem? (i := 1428) (by decide +kernel), List.mem_of_getElem? (i := 1429) (by decide +kernel)⟩
theorem lw_p39 : lw_okq (⟨"ScoreOrchestraModel", "volumeOfColumn", "(II)I"⟩, 19) := ⟨⟨by decide +kernel, by decide +kernel⟩, List.mem_of_getElem? (i := 1204) (by decide +kernel), List.mem_of_getElem? (i := 1432) (by decide +kernel), List.mem_of_getElem? (i := 1433) (by decide +kernel)⟩
theorem lw_p40 : lw_okq (⟨"ScoreOrchestraModel", "sounds", "(II)V"⟩, 19) := ⟨⟨by decide +kernel, by decide +kernel⟩, List.mem_of_getElem? (i := 1204) (by decide +kernel), List.mem_of_getElem? (i := 1439) (by decide +kernel), List.mem_of_getElem? (i := 1440) (by decide +kernel)⟩
theorem lw_p41 : lw_okq (⟨"ScoreOrchestraModel", "tires", "(I)V"⟩, 19) := ⟨⟨by decide +kernel, by decide +kernel⟩, List.mem_of_getElem? (i := 1204) (by decide +kernel), List.mem_of_getElem? (i := 1443) (by decide +kernel), List.mem_of_getElem? (i := 1444) (by decide +kernel)⟩
theorem lw_p42 : lw_okq (⟨"ScoreOrchestraModel", "logs", "(I)V"⟩, 19) := ⟨⟨by decide +kernel, by decide +kernel⟩, List.mem_of_getElem? (i := 1204) (by decide +kernel), List.mem_of_getElem? (i := 1447) (by decide +kernel), List.mem_of_getElem? (i := 1448) (by decide +kernel)⟩
theorem lw_p43 : lw_okq (⟨"ScoreOrchestraModel", "asks", "(I)I"⟩, 19) := ⟨⟨by decide +kernel, by decide +kernel⟩, List.mem_of_getElem? (i := 1204) (by decide +kernel), List.mem_of_getElem? (i := 1462) (by decide +kernel), List.mem_of_getElem? (i := 1463) (by decide +kernel)⟩
theorem lw_p44 : lw_okq (⟨"ScoreOrchestraModel", "asksSection", "(II)I"⟩, 19) := ⟨⟨by decide +kernel, by decide +kernel⟩, List.mem_of_getElem? (i := 1204) (by decide +kernel), List.mem_of_getElem? (i := 1482) (by decide +kernel), List.mem_of_getElem? (i := 1483) (by decide +kernel)⟩
theorem lw_p45 : lw_okq (⟨"ScoreOrchestraModel", "isPeriod", "(I)Z"⟩, 19) := ⟨⟨by decide +kernel, by decide +kernel⟩, List.mem_of_getElem? (i := 1204) (by decide +kernel), List.mem_of_getElem? (i := 1546) (by decide +kernel), List.mem_of_getElem? (i := 1547) (by decide +kernel)⟩
theorem lw_p46 : lw_okq (⟨"ScoreOrchestraModel", "looksAhead", "()V"⟩, 19) := ⟨⟨by decide +kernel, by decide +kernel⟩, List.mem_of_getElem? (i := 1204) (by decide +kernel), List.mem_of_getElem? (i := 1559) (by decide +kernel), List.mem_of_getElem? (i := 1560) (by decide +kernel)⟩
theorem lw_p47 : lw_okq (⟨"ScoreOrchestraModel", "looksBack", "()V"⟩, 19) := ⟨⟨by decide +kernel, by decide +kernel⟩, List.mem_of_getElem? (i := 1204) (by decide +kernel), List.mem_of_getElem? (i := 1563) (by decide +kernel), List.mem_of_getElem? (i := 1564) (by decide +kernel)⟩
def lw_privs_3 : List (MethodName × Nat) := [(⟨"ScoreOrchestraModel", "raises", "(II)I"⟩, 19), (⟨"ScoreOrchestraModel", "sets", "(II)I"⟩, 19), (⟨"ScoreOrchestraModel", "beatsTimes", "(I)I"⟩, 19), (⟨"ScoreOrchestraModel", "beats", "()I"⟩, 19), (⟨"ScoreOrchestraModel", "volumeNow", "(I)I"⟩, 19), (⟨"ScoreOrchestraModel", "plays", "(I)Z"⟩, 19), (⟨"ScoreOrchestraModel", "columnNow", "(I)I"⟩, 19), (⟨"ScoreOrchestraModel", "volumeOfColumn", "(II)I"⟩, 19), (⟨"ScoreOrchestraModel", "sounds", "(II)V"⟩, 19), (⟨"ScoreOrchestraModel", "tires", "(I)V"⟩, 19), (⟨"ScoreOrchestraModel", "logs", "(I)V"⟩, 19), (⟨"ScoreOrchestraModel", "asks", "(I)I"⟩, 19), (⟨"ScoreOrchestraModel", "asksSection", "(II)I"⟩, 19), (⟨"ScoreOrchestraModel", "isPeriod", "(I)Z"⟩, 19), (⟨"ScoreOrchestraModel", "looksAhead", "()V"⟩, 19), (⟨"ScoreOrchestraModel", "looksBack", "()V"⟩, 19)]
theorem lw_r3 : ∀ q ∈ lw_privs_3, lw_okq q := List.forall_mem_cons.mpr ⟨lw_p32, List.forall_mem_cons.mpr ⟨lw_p33, List.forall_mem_cons.mpr ⟨lw_p34, List.forall_mem_cons.mpr ⟨lw_p35, List.forall_mem_cons.mpr ⟨lw_p36, List.forall_mem_cons.mpr ⟨lw_p37, List.forall_mem_cons.mpr ⟨lw_p38, List.forall_mem_cons.mpr ⟨lw_p39, List.forall_mem_cons.mpr ⟨lw_p40, List.forall_mem_cons.mpr ⟨lw_p41, List.forall_mem_cons.mpr ⟨lw_p42, List.forall_mem_cons.mpr ⟨lw_p43, List.forall_mem_cons.mpr ⟨lw_p44, List.forall_mem_cons.mpr ⟨lw_p45, List.forall_mem_cons.mpr ⟨lw_p46, List.forall_mem_cons.mpr ⟨lw_p47, fun _ h => absurd h List.not_mem_nil⟩⟩⟩⟩⟩⟩⟩⟩⟩⟩⟩⟩⟩⟩⟩⟩
theorem lw_p48 : lw_okq (⟨"ScoreOrchestraModel", "volumeBySounds", "()I"⟩, 19) := ⟨⟨by decide +kernel, by decide +kernel⟩, List.mem_of_getElem? (i := 1204) (by decide +kernel), List.mem_of_getElem? (i := 1587) (by decide +kernel), List.mem_of_getElem? (i := 1588) (by decide +kernel)⟩
theorem lw_p49 : lw_okq (⟨"ScoreOrchestraModel", "soundsOf", "(II)I"⟩, 19) := ⟨⟨by decide +kernel, by decide +kernel⟩, List.mem_of_getElem? (i := 1204) (by decide +kernel), List.mem_of_getElem? (i := 1591) (by decide +kernel), List.mem_of_getElem? (i := 1592) (by decide +kernel)⟩
theorem lw_p50 : lw_okq (⟨"ScoreOrchestraModel", "isAhead", "(II)Z"⟩, 19) := ⟨⟨by decide +kernel, by decide +kernel⟩, List.mem_of_getElem? (i := 1204) (by decide +kernel), List.mem_of_getElem? (i := 1611) (by decide +kernel), List.mem_of_getElem? (i := 1612) (by decide +kernel)⟩
theorem lw_p51 : lw_okq (⟨"ScoreOrchestraModel", "soundsAll", "(I)I"⟩, 19) := ⟨⟨by decide +kernel, by decide +kernel⟩, List.mem_of_getElem? (i := 1204) (by decide +kernel), List.mem_of_getElem? (i := 1619) (by decide +kernel), List.mem_of_getElem? (i := 1620) (by decide +kernel)⟩
theorem lw_p52 : lw_okq (⟨"ScoreOrchestraModel", "writes", "(I)V"⟩, 19) := ⟨⟨by decide +kernel, by decide +kernel⟩, List.mem_of_getElem? (i := 1204) (by decide +kernel), List.mem_of_getElem? (i := 1639) (by decide +kernel), List.mem_of_getElem? (i := 1640) (by decide +kernel)⟩
theorem lw_p53 : lw_okq (⟨"ScoreOrchestraModel", "readsAll", "()Z"⟩, 19) := ⟨⟨by decide +kernel, by decide +kernel⟩, List.mem_of_getElem? (i := 1204) (by decide +kernel), List.mem_of_getElem? (i := 1659) (by decide +kernel), List.mem_of_getElem? (i := 1660) (by decide +kernel)⟩
theorem lw_p54 : lw_okq (⟨"ScoreOrchestraModel", "readsCommand", "()Z"⟩, 19) := ⟨⟨by decide +kernel, by decide +kernel⟩, List.mem_of_getElem? (i := 1204) (by decide +kernel), List.mem_of_getElem? (i := 1663) (by decide +kernel), List.mem_of_getElem? (i := 1664) (by decide +kernel)⟩
theorem lw_p55 : lw_okq (⟨"ScoreOrchestraModel", "nextChar", "()I"⟩, 19) := ⟨⟨by decide +kernel, by decide +kernel⟩, List.mem_of_getElem? (i := 1204) (by decide +kernel), List.mem_of_getElem? (i := 1667) (by decide +kernel), List.mem_of_getElem? (i := 1668) (by decide +kernel)⟩
theorem lw_p56 : lw_okq (⟨"ScoreOrchestraModel", "reads", "(I)Z"⟩, 19) := ⟨⟨by decide +kernel, by decide +kernel⟩, List.mem_of_getElem? (i := 1204) (by decide +kernel), List.mem_of_getElem? (i := 1671) (by decide +kernel), List.mem_of_getElem? (i := 1672) (by decide +kernel)⟩
theorem lw_p57 : lw_okq (⟨"ScoreOrchestraModel", "readsAdd", "()Z"⟩, 19) := ⟨⟨by decide +kernel, by decide +kernel⟩, List.mem_of_getElem? (i := 1204) (by decide +kernel), List.mem_of_getElem? (i := 1675) (by decide +kernel), List.mem_of_getElem? (i := 1676) (by decide +kernel)⟩
theorem lw_p58 : lw_okq (⟨"ScoreOrchestraModel", "readsDigit", "(I)Z"⟩, 19) := ⟨⟨by decide +kernel, by decide +kernel⟩, List.mem_of_getElem? (i := 1204) (by decide +kernel), List.mem_of_getElem? (i := 1679) (by decide +kernel), List.mem_of_getElem? (i := 1680) (by decide +kernel)⟩
theorem lw_p59 : lw_okq (⟨"ScoreOrchestraModel", "readsNote", "()Z"⟩, 19) := ⟨⟨by decide +kernel, by decide +kernel⟩, List.mem_of_getElem? (i := 1204) (by decide +kernel), List.mem_of_getElem? (i := 1683) (by decide +kernel), List.mem_of_getElem? (i := 1684) (by decide +kernel)⟩
theorem lw_p60 : lw_okq (⟨"ScoreOrchestraModel", "readsMask", "()Z"⟩, 19) := ⟨⟨by decide +kernel, by decide +kernel⟩, List.mem_of_getElem? (i := 1204) (by decide +kernel), List.mem_of_getElem? (i := 1687) (by decide +kernel), List.mem_of_getElem? (i := 1688) (by decide +kernel)⟩
theorem lw_p61 : lw_okq (⟨"ScoreOrchestraModel", "readsSign", "(I)Z"⟩, 19) := ⟨⟨by decide +kernel, by decide +kernel⟩, List.mem_of_getElem? (i := 1204) (by decide +kernel), List.mem_of_getElem? (i := 1691) (by decide +kernel), List.mem_of_getElem? (i := 1692) (by decide +kernel)⟩
theorem lw_p62 : lw_okq (⟨"ScoreOrchestraModel", "readsT", "()Z"⟩, 19) := ⟨⟨by decide +kernel, by decide +kernel⟩, List.mem_of_getElem? (i := 1204) (by decide +kernel), List.mem_of_getElem? (i := 1695) (by decide +kernel), List.mem_of_getElem? (i := 1696) (by decide +kernel)⟩
theorem lw_p63 : lw_okq (⟨"ScoreOrchestraModel", "readsRaise", "()Z"⟩, 19) := ⟨⟨by decide +kernel, by decide +kernel⟩, List.mem_of_getElem? (i := 1204) (by decide +kernel), List.mem_of_getElem? (i := 1699) (by decide +kernel), List.mem_of_getElem? (i := 1700) (by decide +kernel)⟩
def lw_privs_4 : List (MethodName × Nat) := [(⟨"ScoreOrchestraModel", "volumeBySounds", "()I"⟩, 19), (⟨"ScoreOrchestraModel", "soundsOf", "(II)I"⟩, 19), (⟨"ScoreOrchestraModel", "isAhead", "(II)Z"⟩, 19), (⟨"ScoreOrchestraModel", "soundsAll", "(I)I"⟩, 19), (⟨"ScoreOrchestraModel", "writes", "(I)V"⟩, 19), (⟨"ScoreOrchestraModel", "readsAll", "()Z"⟩, 19), (⟨"ScoreOrchestraModel", "readsCommand", "()Z"⟩, 19), (⟨"ScoreOrchestraModel", "nextChar", "()I"⟩, 19), (⟨"ScoreOrchestraModel", "reads", "(I)Z"⟩, 19), (⟨"ScoreOrchestraModel", "readsAdd", "()Z"⟩, 19), (⟨"ScoreOrchestraModel", "readsDigit", "(I)Z"⟩, 19), (⟨"ScoreOrchestraModel", "readsNote", "()Z"⟩, 19), (⟨"ScoreOrchestraModel", "readsMask", "()Z"⟩, 19), (⟨"ScoreOrchestraModel", "readsSign", "(I)Z"⟩, 19), (⟨"ScoreOrchestraModel", "readsT", "()Z"⟩, 19), (⟨"ScoreOrchestraModel", "readsRaise", "()Z"⟩, 19)]
theorem lw_r4 : ∀ q ∈ lw_privs_4, lw_okq q := List.forall_mem_cons.mpr ⟨lw_p48, List.forall_mem_cons.mpr ⟨lw_p49, List.forall_mem_cons.mpr ⟨lw_p50, List.forall_mem_cons.mpr ⟨lw_p51, List.forall_mem_cons.mpr ⟨lw_p52, List.forall_mem_cons.mpr ⟨lw_p53, List.forall_mem_cons.mpr ⟨lw_p54, List.forall_mem_cons.mpr ⟨lw_p55, List.forall_mem_cons.mpr ⟨lw_p56, List.forall_mem_cons.mpr ⟨lw_p57, List.forall_mem_cons.mpr ⟨lw_p58, List.forall_mem_cons.mpr ⟨lw_p59, List.forall_mem_cons.mpr ⟨lw_p60, List.forall_mem_cons.mpr ⟨lw_p61, List.forall_mem_cons.mpr ⟨lw_p62, List.forall_mem_cons.mpr ⟨lw_p63, fun _ h => absurd h List.not_mem_nil⟩⟩⟩⟩⟩⟩⟩⟩⟩⟩⟩⟩⟩⟩⟩⟩
theorem lw_p64 : lw_okq (⟨"ScoreOrchestraModel", "readsNumber", "(I)Z"⟩, 19) := ⟨⟨by decide +kernel, by decide +kernel⟩, List.mem_of_getElem? (i := 1204) (by decide +kernel), List.mem_of_getElem? (i := 1703) (by decide +kernel), List.mem_of_getElem? (i := 1704) (by decide +kernel)⟩
theorem lw_p65 : lw_okq (⟨"ScoreOrchestraModel", "readsBeat", "()Z"⟩, 19) := ⟨⟨by decide +kernel, by decide +kernel⟩, List.mem_of_getElem? (i := 1204) (by decide +kernel), List.mem_of_getElem? (i := 1707) (by decide +kernel), List.mem_of_getElem? (i := 1708) (by decide +kernel)⟩
theorem lw_p66 : lw_okq (⟨"ScoreOrchestraModel", "doesAll", "()Z"⟩, 19) := ⟨⟨by decide +kernel, by decide +kernel⟩, List.mem_of_getElem? (i := 1204) (by decide +kernel), List.mem_of_getElem? (i := 1711) (by decide +kernel), List.mem_of_getElem? (i := 1712) (by decide +kernel)⟩
theorem lw_p67 : lw_okq (⟨"ScoreOrchestraModel", "notNow", "()I"⟩, 19) := ⟨⟨by decide +kernel, by decide +kernel⟩, List.mem_of_getElem? (i := 1204) (by decide +kernel), List.mem_of_getElem? (i := 1715) (by decide +kernel), List.mem_of_getElem? (i := 1716) (by decide +kernel)⟩
theorem lw_p68 : lw_okq (⟨"ScoreOrchestraModel", "notSection", "(I)I"⟩, 19) := ⟨⟨by decide +kernel, by decide +kernel⟩, List.mem_of_getElem? (i := 1204) (by decide +kernel), List.mem_of_getElem? (i := 1719) (by decide +kernel), List.mem_of_getElem? (i := 1720) (by decide +kernel)⟩
theorem lw_p69 : lw_okq (⟨"ScoreOrchestraModel", "doesNow", "()I"⟩, 19) := ⟨⟨by decide +kernel, by decide +kernel⟩, List.mem_of_getElem? (i := 1204) (by decide +kernel), List.mem_of_getElem? (i := 1723) (by decide +kernel), List.mem_of_getElem? (i := 1724) (by decide +kernel)⟩
theorem lw_p70 : lw_okq (⟨"ScoreOrchestraModel", "goesBack", "()V"⟩, 19) := ⟨⟨by decide +kernel, by decide +kernel⟩, List.mem_of_getElem? (i := 1204) (by decide +kernel), List.mem_of_getElem? (i := 1727) (by decide +kernel), List.mem_of_getElem? (i := 1728) (by decide +kernel)⟩
def lw_privs_5 : List (MethodName × Nat) := [(⟨"ScoreOrchestraModel", "readsNumber", "(I)Z"⟩, 19), (⟨"ScoreOrchestraModel", "readsBeat", "()Z"⟩, 19), (⟨"ScoreOrchestraModel", "doesAll", "()Z"⟩, 19), (⟨"ScoreOrchestraModel", "notNow", "()I"⟩, 19), (⟨"ScoreOrchestraModel", "notSection", "(I)I"⟩, 19), (⟨"ScoreOrchestraModel", "doesNow", "()I"⟩, 19), (⟨"ScoreOrchestraModel", "goesBack", "()V"⟩, 19)]
theorem lw_r5 : ∀ q ∈ lw_privs_5, lw_okq q := List.forall_mem_cons.mpr ⟨lw_p64, List.forall_mem_cons.mpr ⟨lw_p65, List.forall_mem_cons.mpr ⟨lw_p66, List.forall_mem_cons.mpr ⟨lw_p67, List.forall_mem_cons.mpr ⟨lw_p68, List.forall_mem_cons.mpr ⟨lw_p69, List.forall_mem_cons.mpr ⟨lw_p70, fun _ h => absurd h List.not_mem_nil⟩⟩⟩⟩⟩⟩⟩
def lw_privs : List (MethodName × Nat) := lw_privs_1 ++ (lw_privs_2 ++ (lw_privs_3 ++ (lw_privs_4 ++ (lw_privs_5))))
def lw_tbl : List Cond := k2_sels lw_privs ++ tables_1
theorem lw_privs_ok : ∀ q ∈ lw_privs, lw_okq q := by
  show ∀ q ∈ lw_privs_1 ++ (lw_privs_2 ++ (lw_privs_3 ++ (lw_privs_4 ++ (lw_privs_5)))), lw_okq q
  exact List.forall_mem_append.mpr ⟨lw_r1, List.forall_mem_append.mpr ⟨lw_r2, List.forall_mem_append.mpr ⟨lw_r3, List.forall_mem_append.mpr ⟨lw_r4, lw_r5⟩⟩⟩⟩
/-- the streams that the claim lets the run draw from -/
abbrev lw_cs : List Choice := [Jvm.Choice.named "NaN.bits"]
theorem lw_bits : nanBits ∈ lw_cs := by first | decide | exact List.mem_cons_self | simp [lw_cs, nanBits]
/-! ===== BEGIN words of one list among another's, by their places ===== -/
theorem goodIn_r {big : List Cond} (ws : List Cond) (ps : List Nat) (hp : ws = ps.filterMap (fun i => big[i]?)) (h : ws.all goodWord = true) : GoodIn big ws := by
  intro w hw
  have h1 := List.all_eq_true.mp h w hw
  rw [hp] at hw
  obtain ⟨i, -, hi⟩ := List.mem_filterMap.mp hw
  have hm : w ∈ big := by first | exact List.mem_of_getElem? hi | exact List.getElem?_mem hi
  exact ⟨hm, good_of_word h1⟩
theorem goodIn_app {big a b : List Cond} (ha : GoodIn big a) (hb : GoodIn big b) : GoodIn big (a ++ b) := fun w h => (List.mem_append.mp h).elim (ha w) (hb w)
theorem goodIn_ca {big a b : List Cond} {c : Cond} (ha : GoodIn big (c :: a)) (hb : GoodIn big b) : GoodIn big (c :: (a ++ b)) := fun w h => (List.mem_cons.mp h).elim (fun e => ha w (List.mem_cons.mpr (Or.inl e))) (fun h => (List.mem_append.mp h).elim (fun h => ha w (List.mem_cons.mpr (Or.inr h))) (hb w))
theorem goodIn_sub {big ws : List Cond} (hm : ∀ w ∈ ws, w ∈ big) (h : ws.all goodWord = true) : GoodIn big ws := fun w hw => ⟨hm w hw, good_of_word (List.all_eq_true.mp h w hw)⟩
/-! ===== END ===== -/

/-! ===== BEGIN exceptions that leave a method, and their catching by the caller (launches without stack traces) ===== -/
section VXA
/-! The laws vx_back, vx_callV, vx_callS, vx_callSW, vx_throw0, vx_throwS follow proofs of the library, with one case more: JvmDerived/Free/Laws.lean (Back.of_free), Shelf42/LK1.lean (callV, callS), Shelf/KitTraced.lean (throwNew0V, throwNewS). -/
/-- where a method has thrown q: the class by its name, the cell, what was written, the world -/
def vx_T (XC : String → State → State → Prop) (st : State) (q : Addr) (t : State) (mc ms : Nat) (free : Addr → Prop) : Prop :=
  ∃ (E : String) (ce : Cell) (L : List Loc), XC E st t ∧ t.heap[q]? = some ce ∧ ce.vm = .none ∧ st.vm.findClass E = some ce.cls ∧ st.WarmedH t.vm ∧ st.sameButNew ({ t with vm := st.vm } : State) L mc ms ∧ ∀ z ∈ L, free z.base
def vx_Q (Qc : Array Value → State → Outcome → State → Prop) (XC : String → State → State → Prop) (mc ms : Nat) (free : Addr → Prop) : Array Value → State → Outcome → State → Prop := fun a st o t =>
  (Qc a st o t ∧ ∃ L, FrameEnd st o t L mc ms ∧ ∀ q ∈ L, free q.base) ∨ ∃ q, o = .threw q ∧ vx_T XC st q t mc ms free
/-- a callee that returns or throws -/
def vx_Met (l : Launch) (y : MethodName) (ws : List Cond) (rm : Room) (Pc : Array Value → State → Prop) (Qc : Array Value → State → Outcome → State → Prop) (XC : String → State → State → Prop) (mc ms : Nat) (free : Addr → Prop) : Prop :=
  MetFree l y (headSpec ws rm) Pc (fun _ _ _ _ _ => True) (vx_Q Qc XC mc ms free)
def vx_Post (XC : String → State → State → Prop) (mc ms : Nat) (free : Addr → Prop) : Pt → Array Value → Addr → Pt → Prop := fun A a q B =>
  ∃ (g : JFrame) (mk : MethodId) (t : State) (L : List Loc) (E : String) (ce : Cell), B.U.heap = t.heap ∧ B.U.vm = t.vm ∧ XC E (A.U.calling g mk a) t ∧ t.heap[q]? = some ce ∧ ce.vm = .none ∧ A.U.vm.findClass E = some ce.cls ∧ B.locs = A.locs ++ L ∧ (∀ z ∈ L, free z.base) ∧ B.cells = A.cells + mc ∧ B.slots = A.slots + ms
def vx_Back (l : Launch) (R : Room) (p : Program) (e : Env) (below : List Frame) (s : State) (sargs : Array Value) (y : MethodName) (len W9 : Nat)
    (Pre : Pt → Array Value → Prop) (Post : Pt → Array Value → Option Value → Pt → Prop) (PostX : Pt → Array Value → Addr → Pt → Prop) : Prop :=
  ∀ (m : MethodId) (meth : Method) (c : Code) (A : Pt) (g : JFrame) (ig : Instr) (mk : MethodId) (a : Array Value),
    Stand p l e R s m sargs below meth c A.U A.locs A.cells A.slots → g.method = m → g.locals.size = c.maxLocals → decode c.code g.pc = .ok (ig, len) →
    2 * g.monitorRoom + (g.stack.map fun v => v.category).sum ≤ W9 → A.U.methodNamed? y = some mk → Pre A a →
    (∃ (v : Option Value) (B : Pt), Stand p l e R s m sargs below meth c B.U B.locs B.cells B.slots ∧ Post A a v B ∧
      Steps p.tables e below (doInvoke e (A.U.setTop g) [] mk a).1 (B.U.setTop { g with pc := g.pc + len, stack := v.toList ++ g.stack })) ∨
    (∃ (q : Addr) (B : Pt), Stand p l e R s m sargs below meth c B.U B.locs B.cells B.slots ∧ PostX A a q B ∧
      Steps p.tables e below (doInvoke e (A.U.setTop g) [] mk a).1 ((B.U.setTop g).pushFrame (.throwing q)))
section Payer
variable {l : Launch} {R : Room} {p : Program} {e : Env} {below : List Frame} {s : State} {sargs : Array Value} {y : MethodName} {len W9 : Nat}
theorem vx_back {ws : List Cond} {rm : Room} {Pc : Array Value → State → Prop} {Qc : Array Value → State → Outcome → State → Prop} {XC : String → State → State → Prop} {mc ms : Nat} {free : Addr → Prop} {bytes : ByteArray} {maxL : Nat} {ret : Option FieldType}
    (hM : vx_Met l y ws rm Pc Qc XC mc ms free) (hblind : FrameBlind Pc) (hrc : rm.cells = mc) (hrs : rm.slots = ms)
    (hframes : rm.frames + 1 ≤ R.frames) (hlocals : W9 + (maxL + 11) + rm.locals ≤ R.locals)
    (hws : ∀ w ∈ ws, ∀ a' U, s.WarmedH U.vm → w.before a' U = true) (hcode : Cond.code y bytes maxL ret ∈ ws) (hinit : ∀ a' U, s.WarmedH U.vm → (Cond.initialized y.cls).before a' U = true) :
    vx_Back l R p e below s sargs y len W9 (PreOf R mc ms Pc) (PostOf Qc mc ms free) (vx_Post XC mc ms free) := by
  intro m meth c A g ig mk a X hg hsize hdg hW hn hp
  have h1 : (headSpec ws rm).pre.before a A.U = true := atoms_intro fun w hw => hws w hw _ _ X.warmed
  have h2 : (Cond.code y bytes maxL ret).before a A.U = true := hws _ hcode _ _ X.warmed
  have h3 : (Cond.initialized y.cls).before a A.U = true := hinit _ _ X.warmed
  have h4 : A.cells + (headSpec ws rm).room.cells ≤ R.cells := by rw [show (headSpec ws rm).room.cells = mc from hrc]; exact hp.1
  have h5 : A.slots + (headSpec ws rm).room.slots ≤ R.slots := by rw [show (headSpec ws rm).room.slots = ms from hrs]; exact hp.2.1
  have hPc : Pc a (A.U.calling g mk a) := hblind _ _ _ _ hp.2.2
  obtain ⟨U, Ls, c0, s0⟩ := A
  dsimp only [Pt.U, Pt.locs, Pt.cells, Pt.slots] at h1 h2 h3 h4 h5 X hn hPc ⊢
  obtain ⟨methY, cY, hmY, hcY, -, hlY, -, -, -, -⟩ := Cond.code_spec hn h2
  obtain ⟨kY, hkY, -⟩ := className_of_methodNamed hn
  have hinitY : kY.init = .initialized := Cond.initialized_spec (findClass_of_methodNamed hn) hkY h3
  have h : At U g.method c below := by rw [hg]; exact X.here
  have hlocals9 : W9 + (maxL + 11) + (headSpec ws rm).room.locals ≤ R.locals := hlocals
  have happ : (headSpec ws rm).appliesLoose y e.platform (U.calling g mk a) = true :=
    Spec.appliesLoose_calling (g := g) h hdg hn hkY hinitY
      (X.room_calling (g := g) (R' := (headSpec ws rm).room) hsize hmY hcY hframes (by rw [hlY]; omega) h4 h5) h1
  obtain ⟨mid, hmid⟩ := h.above
  have hfr : (U.setTop g).frames = (.java g :: mid) ++ below := by rw [State.frames_setTop' g h.top, hmid]; rfl
  obtain ⟨o, s₂, hsteps, -, hend, hq⟩ := Steps.callFree hM p X.admits X.cas X.clock (acts := []) hfr happ hPc trivial
  have hq' : vx_Q Qc XC mc ms free a (U.calling g mk a) o s₂ := hq
  rw [State.frames_setTop' g h.top] at hend
  obtain ⟨g₀, hg0⟩ := Option.isSome_iff_exists.mp h.top
  obtain ⟨r, hr⟩ := State.topJava?_eq_some.mp hg0
  have hr' : (({ U with heap := s₂.heap, slotsUsed := s₂.slotsUsed } : State).setVm s₂.vm).frames = .java g₀ :: r := hr
  rcases hq' with ⟨hqc, L, hfe, hL⟩ | ⟨q, rfl, E, ce, L, hx, hce, hcv, hcl, hW₂, hsm, hL⟩
  · obtain ⟨⟨v, rfl⟩, hW₂, e2, q2, q3, q4, q5, q6⟩ := id hfe
    have e3 : s₂ = ({ (U.calling g mk a).setFrames s₂.frames with heap := s₂.heap, slotsUsed := s₂.slotsUsed } : State).setVm s₂.vm := by
      have : s₂ = ({ s₂ with vm := (U.calling g mk a).vm } : State).setVm s₂.vm := rfl
      rw [e2] at this
      exact this
    obtain ⟨c₂, i₂, len₂, hc₂, hd₂, hf₂⟩ := hend
    have hW' : U.WarmedH s₂.vm := hW₂
    have hcc : c₂ = c := by
      have h1 : s₂.code? g.method = U.code? g.method := by
        rw [State.code?_eq, State.code?_eq, hW'.alike.method?]
      exact Option.some.inj (hc₂.symm.trans (h1.trans h.code))
    subst hcc
    have hlen : len₂ = len := by rw [hdg] at hd₂; cases hd₂; rfl
    subst hlen
    have hs₂ : s₂ = (({ U with heap := s₂.heap, slotsUsed := s₂.slotsUsed } : State).setVm s₂.vm).setTop { g with pc := g.pc + len₂, stack := v.toList ++ g.stack } := by
      refine e3.trans ?_
      rw [hf₂, State.calling_eq h.top, State.setFrames_setFrames, State.setTop_of_frames _ hr', hr]
      rfl
    have hsame : U.sameButNew ({ U with heap := s₂.heap, slotsUsed := s₂.slotsUsed } : State) L mc ms := by
      refine ⟨?_, q2, q3, q4, q5, q6⟩
      obtain ⟨t, ht, -⟩ := State.frames_cons hr
      show ({ U with heap := s₂.heap, slotsUsed := s₂.slotsUsed } : State) = { U.setFrames U.frames with heap := s₂.heap, slotsUsed := s₂.slotsUsed }
      rw [State.setFrames_self ht]
    subst hg
    refine Or.inl ⟨v, ⟨(({ U with heap := s₂.heap, slotsUsed := s₂.slotsUsed } : State).setVm s₂.vm), Ls ++ L, c0 + mc, s0 + ms⟩,
      ⟨X.admits, X.cas, X.clock, X.frames, X.room, X.hears, X.method, X.code, (X.here.setHeapUsed s₂.heap s₂.slotsUsed).setVm hW'.alike, X.tail, State.WarmedH.trans X.warmed hW', X.limits, X.bytes, X.same.trans (hsame.setVm s.vm)⟩,
      ⟨g, mk, s₂, L, rfl, rfl, hqc, rfl, hL, rfl, rfl⟩, ?_⟩
    show Steps p.tables e below _ ((({ U with heap := s₂.heap, slotsUsed := s₂.slotsUsed } : State).setVm s₂.vm).setTop { g with pc := g.pc + len₂, stack := v.toList ++ g.stack })
    rw [← hs₂]
    exact hsteps
  · obtain ⟨e2, q2, q3, q4, q5, q6⟩ := id hsm
    have e3 : s₂ = ({ (U.calling g mk a).setFrames s₂.frames with heap := s₂.heap, slotsUsed := s₂.slotsUsed } : State).setVm s₂.vm := by
      have : s₂ = ({ s₂ with vm := (U.calling g mk a).vm } : State).setVm s₂.vm := rfl
      rw [e2] at this
      exact this
    have hf₂ : s₂.frames = .throwing q :: .java g :: U.frames.tail := hend
    have hW' : U.WarmedH s₂.vm := hW₂
    have hs₂ : s₂ = ((({ U with heap := s₂.heap, slotsUsed := s₂.slotsUsed } : State).setVm s₂.vm).setTop g).pushFrame (.throwing q) := by
      refine e3.trans ?_
      rw [hf₂, State.calling_eq h.top, State.setFrames_setFrames, State.pushFrame, State.frames_setTop _ hr', State.setTop_of_frames _ hr', State.setFrames_setFrames, hr]
      rfl
    have hsame : U.sameButNew ({ U with heap := s₂.heap, slotsUsed := s₂.slotsUsed } : State) L mc ms := by
      refine ⟨?_, q2, q3, q4, q5, q6⟩
      obtain ⟨t, ht, -⟩ := State.frames_cons hr
      show ({ U with heap := s₂.heap, slotsUsed := s₂.slotsUsed } : State) = { U.setFrames U.frames with heap := s₂.heap, slotsUsed := s₂.slotsUsed }
      rw [State.setFrames_self ht]
    subst hg
    refine Or.inr ⟨q, ⟨(({ U with heap := s₂.heap, slotsUsed := s₂.slotsUsed } : State).setVm s₂.vm), Ls ++ L, c0 + mc, s0 + ms⟩,
      ⟨X.admits, X.cas, X.clock, X.frames, X.room, X.hears, X.method, X.code, (X.here.setHeapUsed s₂.heap s₂.slotsUsed).setVm hW'.alike, X.tail, State.WarmedH.trans X.warmed hW', X.limits, X.bytes, X.same.trans (hsame.setVm s.vm)⟩,
      ⟨g, mk, s₂, L, E, ce, rfl, rfl, hx, hce, hcv, hcl, rfl, hL, rfl, rfl⟩, ?_⟩
    show Steps p.tables e below _ (((({ U with heap := s₂.heap, slotsUsed := s₂.slotsUsed } : State).setVm s₂.vm).setTop g).pushFrame (.throwing q))
    rw [← hs₂]
    exact hsteps
end Payer
section Calls
variable {p : Program} {l : Launch} {e : Env} {R : Room} {s : State} {m : MethodId} {args : Array Value} {below : List Frame} {meth : Method} {c : Code} {T : State} {locs : List Loc} {cells slots : Nat}
theorem vx_callV (X : Stand p l e R s m args below meth c T locs cells slots) (hexec : p.tables.exec = Jvm.exec) {own C : String} {index : Nat} {y : MethodName} {bytes : ByteArray} {maxL : Nat} {ret : Option FieldType}
    (hown : s.vm.findClass own = some m.cls) (hlink : (Cond.methodLink own index y).before args s = true) (hinst : (Cond.instanceMethod y).before args s = true) (hsel : (Cond.selects C y y).before args s = true)
    (hcode : (Cond.code y bytes maxL ret).before args s = true) (hy : y.cls ≠ "java/lang/invoke/MethodHandle" ∧ y.cls ≠ "java/lang/invoke/VarHandle")
    {W9 : Nat} {Pre : Pt → Array Value → Prop} {Post : Pt → Array Value → Option Value → Pt → Prop} {PostX : Pt → Array Value → Addr → Pt → Prop} (hK : vx_Back l R p e below s args y 3 W9 Pre Post PostX)
    {b : Addr} {cellB : Cell} (hcell : T.heap[b]? = some cellB) (hobj : cellB.vm.isStatics = false) (hcls : s.vm.findClass C = some cellB.cls)
    {g : JFrame} (hg : g.method = m) (hsize : g.locals.size = c.maxLocals) {argsL rest : List Value} (hlen : ∀ sig, parseMethodDescriptor y.desc = some sig → argsL.length = sig.parameters.length)
    (hstack : g.stack = argsL.reverse ++ .ref b :: rest) (hW : 2 * g.monitorRoom + (rest.map fun v => v.category).sum ≤ W9) (hdg : decode c.code g.pc = .ok (.invokevirtual index, 3))
    (hpre : ∀ vm₁, s.WarmedH vm₁ → Pre ⟨T.setVm vm₁, locs, cells, slots⟩ (Value.ref b :: argsL).toArray) :
    (∃ (v : Option Value) (vm₁ : Vm) (B : Pt), s.WarmedH vm₁ ∧ Stand p l e R s m args below meth c B.U B.locs B.cells B.slots ∧ Post ⟨T.setVm vm₁, locs, cells, slots⟩ (Value.ref b :: argsL).toArray v B ∧
      ∀ target, Steps p.tables e below (B.U.setTop { g with pc := g.pc + 3, stack := v.toList ++ rest }) target → Steps p.tables e below (T.setTop g) target) ∨
    (∃ (q : Addr) (vm₁ : Vm) (B : Pt), s.WarmedH vm₁ ∧ Stand p l e R s m args below meth c B.U B.locs B.cells B.slots ∧ PostX ⟨T.setVm vm₁, locs, cells, slots⟩ (Value.ref b :: argsL).toArray q B ∧
      Steps p.tables e below (T.setTop g) ((B.U.setTop { g with stack := rest }).pushFrame (.throwing q))) := by
  obtain ⟨mk, methM, hnamed, hmethM, hstM, habM⟩ := Cond.instanceMethod_spec hinst
  obtain ⟨methM', cM, hmethM', -, -, -, -, -, -, hsigM⟩ := Cond.code_spec hnamed hcode
  cases hmethM.symm.trans hmethM'
  obtain ⟨c2, r2, m2, q1, q2, q3, q4, kP, hkP, hkPi⟩ := Cond.selects_spec hsel
  cases hcls.symm.trans q1
  cases (State.methodFound?_of_named hnamed hy).symm.trans q2
  cases hnamed.symm.trans q3
  have hselP : selectMethod e.platform s.vm cellB.cls mk = .method mk := by rw [Launch.admits_selectMethod X.admits]; exact q4
  obtain ⟨vm₁, X₁, hstep₁⟩ := X.invokevirtual hexec hown hlink hnamed hmethM hstM hkP hkPi hy (a := b) (cell := cellB) hcell
    (fun z h => by rw [h] at hobj; cases hobj) hselP hmethM habM hkP hkPi (g := g) hg (argsL := argsL) (rest := rest) (hlen _ hsigM) hstack hdg
  rcases hK m meth c ⟨T.setVm vm₁, locs, cells, slots⟩ { g with stack := rest } (.invokevirtual index) mk (Value.ref b :: argsL).toArray X₁ hg hsize hdg hW (X₁.named hnamed) (hpre vm₁ X₁.warmed) with ⟨v, B, X', hpost, hsteps⟩ | ⟨q, B, X', hpost, hsteps⟩
  · exact Or.inl ⟨v, vm₁, B, X₁.warmed, X', hpost, fun target h => hstep₁ _ fun acts => by rw [doInvoke_state]; exact hsteps.trans h⟩
  · exact Or.inr ⟨q, vm₁, B, X₁.warmed, X', hpost, hstep₁ _ fun acts => by rw [doInvoke_state]; exact hsteps⟩
theorem vx_callS (X : Stand p l e R s m args below meth c T locs cells slots) (hexec : p.tables.exec = Jvm.exec) {own : String} {index : Nat} {y : MethodName} {bytes : ByteArray} {maxL : Nat} {ret : Option FieldType}
    (hown : s.vm.findClass own = some m.cls) (hlink : (Cond.methodLink own index y).before args s = true) (hstat : (Cond.static y).before args s = true) (hinit : (Cond.initialized y.cls).before args s = true)
    (hcode : (Cond.code y bytes maxL ret).before args s = true) (hy : y.cls ≠ "java/lang/invoke/MethodHandle" ∧ y.cls ≠ "java/lang/invoke/VarHandle")
    {W9 : Nat} {Pre : Pt → Array Value → Prop} {Post : Pt → Array Value → Option Value → Pt → Prop} {PostX : Pt → Array Value → Addr → Pt → Prop} (hK : vx_Back l R p e below s args y 3 W9 Pre Post PostX)
    {g : JFrame} (hg : g.method = m) (hsize : g.locals.size = c.maxLocals) {argsL rest : List Value} (hlen : ∀ sig, parseMethodDescriptor y.desc = some sig → argsL.length = sig.parameters.length)
    (hstack : g.stack = argsL.reverse ++ rest) (hW : 2 * g.monitorRoom + (rest.map fun v => v.category).sum ≤ W9) (hdg : decode c.code g.pc = .ok (.invokestatic index, 3))
    (hpre : ∀ vm₁, s.WarmedH vm₁ → Pre ⟨T.setVm vm₁, locs, cells, slots⟩ argsL.toArray) :
    (∃ (v : Option Value) (vm₁ : Vm) (B : Pt), s.WarmedH vm₁ ∧ Stand p l e R s m args below meth c B.U B.locs B.cells B.slots ∧ Post ⟨T.setVm vm₁, locs, cells, slots⟩ argsL.toArray v B ∧
      ∀ target, Steps p.tables e below (B.U.setTop { g with pc := g.pc + 3, stack := v.toList ++ rest }) target → Steps p.tables e below (T.setTop g) target) ∨
    (∃ (q : Addr) (vm₁ : Vm) (B : Pt), s.WarmedH vm₁ ∧ Stand p l e R s m args below meth c B.U B.locs B.cells B.slots ∧ PostX ⟨T.setVm vm₁, locs, cells, slots⟩ argsL.toArray q B ∧
      Steps p.tables e below (T.setTop g) ((B.U.setTop { g with stack := rest }).pushFrame (.throwing q))) := by
  obtain ⟨mk, hnamed⟩ := Cond.code_named hcode
  obtain ⟨methM, cM, hmethM, -, -, -, -, -, -, hsigM⟩ := Cond.code_spec hnamed hcode
  have hstatic : methM.isStatic = true := Cond.static_spec hnamed hmethM hstat
  obtain ⟨kP, hkP, -⟩ := className_of_methodNamed hnamed
  have hinitP : kP.init = .initialized := Cond.initialized_spec (findClass_of_methodNamed hnamed) hkP hinit
  obtain ⟨vm₁, X₁, hstep₁⟩ := X.invokestatic hexec hown hlink hnamed hmethM hstatic hkP hinitP hy (g := g) hg (argsL := argsL) (rest := rest) (hlen _ hsigM) hstack hdg
  rcases hK m meth c ⟨T.setVm vm₁, locs, cells, slots⟩ { g with stack := rest } (.invokestatic index) mk argsL.toArray X₁ hg hsize hdg hW (X₁.named hnamed) (hpre vm₁ X₁.warmed) with ⟨v, B, X', hpost, hsteps⟩ | ⟨q, B, X', hpost, hsteps⟩
  · exact Or.inl ⟨v, vm₁, B, X₁.warmed, X', hpost, fun target h => hstep₁ _ fun acts => by rw [doInvoke_state]; exact hsteps.trans h⟩
  · exact Or.inr ⟨q, vm₁, B, X₁.warmed, X', hpost, hstep₁ _ fun acts => by rw [doInvoke_state]; exact hsteps⟩
end Calls
theorem vx_cls {s : State} {T : State} {vm₁ : Vm} {E : String} {k : ClassId} (hW : s.WarmedH vm₁) (h : (T.setVm vm₁).vm.findClass E = some k) : s.vm.findClass E = some k := by
  have h1 : vm₁.findClass E = some k := h
  rw [hW.alike.findClass] at h1
  exact h1
/-- the method's frame g, with q thrown over it -/
def vx_W (p : Program) (l : Launch) (e : Env) (R : Room) (s : State) (m : MethodId) (args : Array Value) (below : List Frame) (meth : Method) (c : Code) (H : Heap) (locs : List Loc) (cells slots : Nat) (Q : State → Prop) (g : JFrame) (q : Addr) : Prop :=
  ∀ T : State, T.heap = H → Stand p l e R s m args below meth c T locs cells slots → ∃ t, Steps p.tables e below ((T.setTop g).pushFrame (.throwing q)) t ∧ Q t
def vx_Run (p : Program) (l : Launch) (e : Env) (R : Room) (s : State) (m : MethodId) (args : Array Value) (below : List Frame) (meth : Method) (c : Code) (H : Heap) (locs : List Loc) (cells slots mc ms : Nat) (g : JFrame) (rest : List Value) (Qa : State → Outcome → State → Prop) (XC : String → State → State → Prop) (free : Addr → Prop) : Prop :=
  ∀ T : State, T.heap = H → Stand p l e R s m args below meth c T locs cells slots →
    (∃ (v : Option Value) (st₀ t T' : State) (L : List Loc), st₀.heap = H ∧ Stand p l e R s m args below meth c T' (locs ++ L) (cells + mc) (slots + ms) ∧ (∀ q ∈ L, free q.base) ∧ T'.heap = t.heap ∧ T'.vm = t.vm ∧ Qa st₀ (.returned v) t ∧
      Goes p e below T g T' { g with pc := g.pc + 3, stack := v.toList ++ rest }) ∨
    (∃ (q : Addr) (st₀ t T' : State) (L : List Loc) (E : String) (ce : Cell), st₀.heap = H ∧ Stand p l e R s m args below meth c T' (locs ++ L) (cells + mc) (slots + ms) ∧ (∀ z ∈ L, free z.base) ∧ T'.heap = t.heap ∧ T'.vm = t.vm ∧ XC E st₀ t ∧ t.heap[q]? = some ce ∧ ce.vm = .none ∧ s.vm.findClass E = some ce.cls ∧
      Steps p.tables e below (T.setTop g) ((T'.setTop { g with stack := rest }).pushFrame (.throwing q)))
def vx_X {S : Type} (px : S → Prop) (B : String → S → State → Prop) (A : Nat → Prop) : String → State → State → Prop := fun E st t => ∃ u : S, px u ∧ B E u t ∧ va_F A st t
section Runs
variable {p : Program} {l : Launch} {e : Env} {R : Room} {s : State} {m : MethodId} {args : Array Value} {below : List Frame} {meth : Method} {c : Code} {H : Heap} {locs : List Loc} {cells slots : Nat}
variable {y : MethodName} {bytes cc : ByteArray} {maxL nL mc ms n index : Nat} {ret : Option FieldType} {ws : List Cond} {rm : Room} {Pc : Array Value → State → Prop} {Qc : Array Value → State → Outcome → State → Prop} {XC : String → State → State → Prop} {free : Addr → Prop} {Ts : List Cond} {own C : String} {b : Addr} {As rest : List Value} {g : JFrame}
theorem vx_callBack (cb : CallB R s args own index y bytes maxL ret ws rm mc ms n) (hM : vx_Met l y ws rm Pc Qc XC mc ms free) (hbl : FrameBlind Pc) : vx_Back l R p e below s args y 3 8 (PreOf R mc ms Pc) (PostOf Qc mc ms free) (vx_Post XC mc ms free) := by
  obtain ⟨hrc, hrs, hfr, hlo, hws, hcw, -, hini, -⟩ := cb
  exact vx_back (bytes := bytes) (maxL := maxL) (ret := ret) hM hbl hrc hrs hfr hlo hws hcw (fun a' U hW => word_at hW (Or.inl (by first | rfl | simp [Cond.onTables, Cond.keeps, Cond.steady])) hini)
theorem vx_runV (S : CallFix p m c cc nL s args Ts own) (hM : vx_Met l y ws rm Pc Qc XC mc ms free) (cw : CallW R s args own C index y bytes maxL ret ws rm mc ms n) (hp : PreV s H C b Pc As)
    (hg : g.method = m) (hn : As.length = n) (hsize : g.locals.size = nL) (hstack : g.stack = As.reverse ++ .ref b :: rest) (hW : 2 * g.monitorRoom + (rest.map fun v => v.category).sum ≤ 8) (hdg : decode cc g.pc = .ok (.invokevirtual index, 3)) (hf : cells + mc ≤ R.cells ∧ slots + ms ≤ R.slots) :
    vx_Run p l e R s m args below meth c H locs cells slots mc ms g rest (Qc (Value.ref b :: As).toArray) XC free := by
  have hK : vx_Back l R p e below s args y 3 8 (PreOf R mc ms Pc) (PostOf Qc mc ms free) (vx_Post XC mc ms free) := vx_callBack cw.1 hM hp.1
  obtain ⟨⟨-, -, -, -, -, -, hcode, -, hy, hlen, hl⟩, hin, hse⟩ := cw
  obtain ⟨hx, hb, hml, ho, -⟩ := S
  obtain ⟨-, ⟨cellB, hcB, hoB, hclB⟩, hPc⟩ := hp
  intro T hT X
  rcases vx_callV X hx (C := C) (bytes := bytes) (maxL := maxL) (ret := ret) ho hl hin hse hcode hy hK (by rw [hT]; exact hcB) hoB hclB hg (hsize.trans hml.symm) (argsL := As) (rest := rest) (fun sig h => hn.trans (hlen sig h)) hstack hW (by rw [hb]; exact hdg)
    (fun vm₁ hW₁ => ⟨hf.1, hf.2, hPc (T.setVm vm₁) hT hW₁⟩) with ⟨v, vm₁, ⟨U', l2, c2, s2⟩, hW₁, X', ⟨g', mk, t, L, e1, e2, hq, h1, hL, h2, h3⟩, st⟩ | ⟨q, vm₁, ⟨U', l2, c2, s2⟩, hW₁, X', ⟨g', mk, t, L, E, ce, e1, e2, hq, hce, hcv, hcl, h1, hL, h2, h3⟩, st⟩
  · dsimp only [Pt.U, Pt.locs, Pt.cells, Pt.slots] at X' e1 e2 h1 h2 h3 st
    subst h1; subst h2; subst h3
    exact Or.inl ⟨v, (T.setVm vm₁).calling g' mk (Value.ref b :: As).toArray, t, U', L, hT, X', hL, e1, e2, hq, st⟩
  · dsimp only [Pt.U, Pt.locs, Pt.cells, Pt.slots] at X' e1 e2 h1 h2 h3 st hcl
    subst h1; subst h2; subst h3
    exact Or.inr ⟨q, (T.setVm vm₁).calling g' mk (Value.ref b :: As).toArray, t, U', L, E, ce, hT, X', hL, e1, e2, hq, hce, hcv, vx_cls hW₁ hcl, st⟩
theorem vx_runS (S : CallFix p m c cc nL s args Ts own) (hM : vx_Met l y ws rm Pc Qc XC mc ms free) (cw : CallB R s args own index y bytes maxL ret ws rm mc ms n ∧ (Cond.static y).before args s = true) (hp : PreS s H Pc As)
    (hg : g.method = m) (hn : As.length = n) (hsize : g.locals.size = nL) (hstack : g.stack = As.reverse ++ rest) (hW : 2 * g.monitorRoom + (rest.map fun v => v.category).sum ≤ 8) (hdg : decode cc g.pc = .ok (.invokestatic index, 3)) (hf : cells + mc ≤ R.cells ∧ slots + ms ≤ R.slots) :
    vx_Run p l e R s m args below meth c H locs cells slots mc ms g rest (Qc As.toArray) XC free := by
  have hK : vx_Back l R p e below s args y 3 8 (PreOf R mc ms Pc) (PostOf Qc mc ms free) (vx_Post XC mc ms free) := vx_callBack cw.1 hM hp.1
  obtain ⟨⟨-, -, -, -, -, -, hcode, hini, hy, hlen, hl⟩, hstt⟩ := cw
  obtain ⟨hx, hb, hml, ho, -⟩ := S
  intro T hT X
  rcases vx_callS X hx (bytes := bytes) (maxL := maxL) (ret := ret) ho hl hstt hini hcode hy hK hg (hsize.trans hml.symm) (argsL := As) (rest := rest) (fun sig h => hn.trans (hlen sig h)) hstack hW (by rw [hb]; exact hdg)
    (fun vm₁ hW₁ => ⟨hf.1, hf.2, hp.2 (T.setVm vm₁) hT hW₁⟩) with ⟨v, vm₁, ⟨U', l2, c2, s2⟩, hW₁, X', ⟨g', mk, t, L, e1, e2, hq, h1, hL, h2, h3⟩, st⟩ | ⟨q, vm₁, ⟨U', l2, c2, s2⟩, hW₁, X', ⟨g', mk, t, L, E, ce, e1, e2, hq, hce, hcv, hcl, h1, hL, h2, h3⟩, st⟩
  · dsimp only [Pt.U, Pt.locs, Pt.cells, Pt.slots] at X' e1 e2 h1 h2 h3 st
    subst h1; subst h2; subst h3
    exact Or.inl ⟨v, (T.setVm vm₁).calling g' mk As.toArray, t, U', L, hT, X', hL, e1, e2, hq, st⟩
  · dsimp only [Pt.U, Pt.locs, Pt.cells, Pt.slots] at X' e1 e2 h1 h2 h3 st hcl
    subst h1; subst h2; subst h3
    exact Or.inr ⟨q, (T.setVm vm₁).calling g' mk As.toArray, t, U', L, E, ce, hT, X', hL, e1, e2, hq, hce, hcv, vx_cls hW₁ hcl, st⟩
end Runs
section Rows
variable {p : Program} {l : Launch} {e : Env} {R : Room} {s : State} {m : MethodId} {args : Array Value} {below : List Frame} {meth : Method} {c : Code} {H : Heap} {locs : List Loc} {cells slots : Nat} {Q : State → Prop}
variable {mc ms : Nat} {free : Addr → Prop} {A0 A1 : Nat → Prop} {H0 : Heap} {a : Array Value} {pc : Nat} {ls : Array Slot} {st0 rest : List Value}
theorem vx_keep {st₀ t T' : State} {L : List Loc} (h0 : st₀.heap = H) (e1 : T'.heap = t.heap) (hS : va_S A0 H0 H locs) (hA : ∀ q, q < H.size → A1 q → A0 q) (hf : ∀ q, free q → A0 q) (hL : ∀ q ∈ L, free q.base) (hF : va_F A1 st₀ t) :
    H.size ≤ T'.heap.size ∧ (∀ q : Nat, q < H.size → ¬ A1 q → T'.heap[q]? = H[q]?) ∧ va_S A0 H0 T'.heap (locs ++ L) := by
  obtain ⟨hz, hk⟩ := hF
  rw [h0] at hz hk
  exact ⟨by rw [e1]; exact hz, fun q h1 h2 => by rw [e1]; exact hk q h1 h2,
    ⟨Nat.le_trans hS.1 (by rw [e1]; exact hz), fun q h1 h2 => by rw [e1, hk q (Nat.lt_of_lt_of_le h1 hS.1) (fun z => h2 (hA q (Nat.lt_of_lt_of_le h1 hS.1) z))]; exact hS.2.1 q h1 h2, fun q hq => by
      rcases List.mem_append.mp hq with h | h
      · exact hS.2.2 q h
      · exact hf _ (hL q h)⟩⟩
theorem vx_calli {S SX : Type} {post : Int32 → S → Prop} {px : SX → Prop} {B : S → State → Prop} {BX : String → SX → State → Prop} {AX : Nat → Prop} (hr : vx_Run p l e R s m args below meth c H locs cells slots mc ms (F0 m pc ls st0) rest (va_Qi post B A1 a) (vx_X px BX AX) free) (hS : va_S A0 H0 H locs) (hA : ∀ q, q < H.size → A1 q → A0 q) (hf : ∀ q, free q → A0 q) (hAX : ∀ q, q < H.size → AX q → A0 q)
    (kx : ∀ (E : String) (ce : Cell) (q9 : Addr) (u : SX) (t : State) (H1 : Heap) (locs1 : List Loc), t.heap = H1 → s.vm.Alike t.vm → px u → BX E u t → H.size ≤ H1.size → (∀ q : Nat, q < H.size → ¬ AX q → H1[q]? = H[q]?) → va_S A0 H0 H1 locs1 → H1[q9]? = some ce → ce.vm = .none → s.vm.findClass E = some ce.cls → vx_W p l e R s m args below meth c H1 locs1 (cells + mc) (slots + ms) Q (F0 m pc ls rest) q9)
    (kk : ∀ (r : Int32) (u : S) (t : State) (H1 : Heap) (locs1 : List Loc), t.heap = H1 → s.vm.Alike t.vm → post r u → B u t → H.size ≤ H1.size → (∀ q : Nat, q < H.size → ¬ A1 q → H1[q]? = H[q]?) → va_S A0 H0 H1 locs1 → W p l e R s m args below meth c H1 locs1 (cells + mc) (slots + ms) Q (F0 m (pc + 3) ls (.int r :: rest))) : W p l e R s m args below meth c H locs cells slots Q (F0 m pc ls st0) := by
  intro T hT X
  rcases hr T hT X with ⟨v, st₀, t, T', L, h0, X', hL, e1, e2, ⟨⟨r, u, hv, hp, hb⟩, hF⟩, st⟩ | ⟨q, st₀, t, T', L, E, ce, h0, X', hL, e1, e2, ⟨u, hp, hb, hF⟩, hce, hcv, hcl, st⟩
  · cases hv
    obtain ⟨k1, k2, k3⟩ := vx_keep h0 e1 hS hA hf hL hF
    obtain ⟨t2, a1, b1⟩ := kk r u t T'.heap (locs ++ L) e1.symm (by rw [← e2]; exact X'.warmed.alike) hp hb k1 k2 k3 T' rfl X'
    exact ⟨t2, st t2 a1, b1⟩
  · obtain ⟨k1, k2, k3⟩ := vx_keep h0 e1 hS hAX hf hL hF
    obtain ⟨t2, a1, b1⟩ := kx E ce q u t T'.heap (locs ++ L) e1.symm (by rw [← e2]; exact X'.warmed.alike) hp hb k1 k2 k3 (by rw [e1]; exact hce) hcv hcl T' rfl X'
    exact ⟨t2, st.trans a1, b1⟩
theorem vx_calll {S SX : Type} {post : Int64 → S → Prop} {px : SX → Prop} {B : S → State → Prop} {BX : String → SX → State → Prop} {AX : Nat → Prop} (hr : vx_Run p l e R s m args below meth c H locs cells slots mc ms (F0 m pc ls st0) rest (va_Ql post B A1 a) (vx_X px BX AX) free) (hS : va_S A0 H0 H locs) (hA : ∀ q, q < H.size → A1 q → A0 q) (hf : ∀ q, free q → A0 q) (hAX : ∀ q, q < H.size → AX q → A0 q)
    (kx : ∀ (E : String) (ce : Cell) (q9 : Addr) (u : SX) (t : State) (H1 : Heap) (locs1 : List Loc), t.heap = H1 → s.vm.Alike t.vm → px u → BX E u t → H.size ≤ H1.size → (∀ q : Nat, q < H.size → ¬ AX q → H1[q]? = H[q]?) → va_S A0 H0 H1 locs1 → H1[q9]? = some ce → ce.vm = .none → s.vm.findClass E = some ce.cls → vx_W p l e R s m args below meth c H1 locs1 (cells + mc) (slots + ms) Q (F0 m pc ls rest) q9)
    (kk : ∀ (r : Int64) (u : S) (t : State) (H1 : Heap) (locs1 : List Loc), t.heap = H1 → s.vm.Alike t.vm → post r u → B u t → H.size ≤ H1.size → (∀ q : Nat, q < H.size → ¬ A1 q → H1[q]? = H[q]?) → va_S A0 H0 H1 locs1 → W p l e R s m args below meth c H1 locs1 (cells + mc) (slots + ms) Q (F0 m (pc + 3) ls (.long r :: rest))) : W p l e R s m args below meth c H locs cells slots Q (F0 m pc ls st0) := by
  intro T hT X
  rcases hr T hT X with ⟨v, st₀, t, T', L, h0, X', hL, e1, e2, ⟨⟨r, u, hv, hp, hb⟩, hF⟩, st⟩ | ⟨q, st₀, t, T', L, E, ce, h0, X', hL, e1, e2, ⟨u, hp, hb, hF⟩, hce, hcv, hcl, st⟩
  · cases hv
    obtain ⟨k1, k2, k3⟩ := vx_keep h0 e1 hS hA hf hL hF
    obtain ⟨t2, a1, b1⟩ := kk r u t T'.heap (locs ++ L) e1.symm (by rw [← e2]; exact X'.warmed.alike) hp hb k1 k2 k3 T' rfl X'
    exact ⟨t2, st t2 a1, b1⟩
  · obtain ⟨k1, k2, k3⟩ := vx_keep h0 e1 hS hAX hf hL hF
    obtain ⟨t2, a1, b1⟩ := kx E ce q u t T'.heap (locs ++ L) e1.symm (by rw [← e2]; exact X'.warmed.alike) hp hb k1 k2 k3 (by rw [e1]; exact hce) hcv hcl T' rfl X'
    exact ⟨t2, st.trans a1, b1⟩
theorem vx_callf {S SX : Type} {post : UInt32 → S → Prop} {px : SX → Prop} {B : S → State → Prop} {BX : String → SX → State → Prop} {AX : Nat → Prop} (hr : vx_Run p l e R s m args below meth c H locs cells slots mc ms (F0 m pc ls st0) rest (va_Qf post B A1 a) (vx_X px BX AX) free) (hS : va_S A0 H0 H locs) (hA : ∀ q, q < H.size → A1 q → A0 q) (hf : ∀ q, free q → A0 q) (hAX : ∀ q, q < H.size → AX q → A0 q)
    (kx : ∀ (E : String) (ce : Cell) (q9 : Addr) (u : SX) (t : State) (H1 : Heap) (locs1 : List Loc), t.heap = H1 → s.vm.Alike t.vm → px u → BX E u t → H.size ≤ H1.size → (∀ q : Nat, q < H.size → ¬ AX q → H1[q]? = H[q]?) → va_S A0 H0 H1 locs1 → H1[q9]? = some ce → ce.vm = .none → s.vm.findClass E = some ce.cls → vx_W p l e R s m args below meth c H1 locs1 (cells + mc) (slots + ms) Q (F0 m pc ls rest) q9)
    (kk : ∀ (r : UInt32) (u : S) (t : State) (H1 : Heap) (locs1 : List Loc), t.heap = H1 → s.vm.Alike t.vm → post r u → B u t → H.size ≤ H1.size → (∀ q : Nat, q < H.size → ¬ A1 q → H1[q]? = H[q]?) → va_S A0 H0 H1 locs1 → W p l e R s m args below meth c H1 locs1 (cells + mc) (slots + ms) Q (F0 m (pc + 3) ls (.float r :: rest))) : W p l e R s m args below meth c H locs cells slots Q (F0 m pc ls st0) := by
  intro T hT X
  rcases hr T hT X with ⟨v, st₀, t, T', L, h0, X', hL, e1, e2, ⟨⟨r, u, hv, hp, hb⟩, hF⟩, st⟩ | ⟨q, st₀, t, T', L, E, ce, h0, X', hL, e1, e2, ⟨u, hp, hb, hF⟩, hce, hcv, hcl, st⟩
  · cases hv
    obtain ⟨k1, k2, k3⟩ := vx_keep h0 e1 hS hA hf hL hF
    obtain ⟨t2, a1, b1⟩ := kk r u t T'.heap (locs ++ L) e1.symm (by rw [← e2]; exact X'.warmed.alike) hp hb k1 k2 k3 T' rfl X'
    exact ⟨t2, st t2 a1, b1⟩
  · obtain ⟨k1, k2, k3⟩ := vx_keep h0 e1 hS hAX hf hL hF
    obtain ⟨t2, a1, b1⟩ := kx E ce q u t T'.heap (locs ++ L) e1.symm (by rw [← e2]; exact X'.warmed.alike) hp hb k1 k2 k3 (by rw [e1]; exact hce) hcv hcl T' rfl X'
    exact ⟨t2, st.trans a1, b1⟩
theorem vx_calld {S SX : Type} {post : UInt64 → S → Prop} {px : SX → Prop} {B : S → State → Prop} {BX : String → SX → State → Prop} {AX : Nat → Prop} (hr : vx_Run p l e R s m args below meth c H locs cells slots mc ms (F0 m pc ls st0) rest (va_Qd post B A1 a) (vx_X px BX AX) free) (hS : va_S A0 H0 H locs) (hA : ∀ q, q < H.size → A1 q → A0 q) (hf : ∀ q, free q → A0 q) (hAX : ∀ q, q < H.size → AX q → A0 q)
    (kx : ∀ (E : String) (ce : Cell) (q9 : Addr) (u : SX) (t : State) (H1 : Heap) (locs1 : List Loc), t.heap = H1 → s.vm.Alike t.vm → px u → BX E u t → H.size ≤ H1.size → (∀ q : Nat, q < H.size → ¬ AX q → H1[q]? = H[q]?) → va_S A0 H0 H1 locs1 → H1[q9]? = some ce → ce.vm = .none → s.vm.findClass E = some ce.cls → vx_W p l e R s m args below meth c H1 locs1 (cells + mc) (slots + ms) Q (F0 m pc ls rest) q9)
    (kk : ∀ (r : UInt64) (u : S) (t : State) (H1 : Heap) (locs1 : List Loc), t.heap = H1 → s.vm.Alike t.vm → post r u → B u t → H.size ≤ H1.size → (∀ q : Nat, q < H.size → ¬ A1 q → H1[q]? = H[q]?) → va_S A0 H0 H1 locs1 → W p l e R s m args below meth c H1 locs1 (cells + mc) (slots + ms) Q (F0 m (pc + 3) ls (.double r :: rest))) : W p l e R s m args below meth c H locs cells slots Q (F0 m pc ls st0) := by
  intro T hT X
  rcases hr T hT X with ⟨v, st₀, t, T', L, h0, X', hL, e1, e2, ⟨⟨r, u, hv, hp, hb⟩, hF⟩, st⟩ | ⟨q, st₀, t, T', L, E, ce, h0, X', hL, e1, e2, ⟨u, hp, hb, hF⟩, hce, hcv, hcl, st⟩
  · cases hv
    obtain ⟨k1, k2, k3⟩ := vx_keep h0 e1 hS hA hf hL hF
    obtain ⟨t2, a1, b1⟩ := kk r u t T'.heap (locs ++ L) e1.symm (by rw [← e2]; exact X'.warmed.alike) hp hb k1 k2 k3 T' rfl X'
    exact ⟨t2, st t2 a1, b1⟩
  · obtain ⟨k1, k2, k3⟩ := vx_keep h0 e1 hS hAX hf hL hF
    obtain ⟨t2, a1, b1⟩ := kx E ce q u t T'.heap (locs ++ L) e1.symm (by rw [← e2]; exact X'.warmed.alike) hp hb k1 k2 k3 (by rw [e1]; exact hce) hcv hcl T' rfl X'
    exact ⟨t2, st.trans a1, b1⟩
theorem vx_callv {S SX : Type} {post : S → Prop} {px : SX → Prop} {B : S → State → Prop} {BX : String → SX → State → Prop} {AX : Nat → Prop} (hr : vx_Run p l e R s m args below meth c H locs cells slots mc ms (F0 m pc ls st0) rest (va_Qv post B A1 a) (vx_X px BX AX) free) (hS : va_S A0 H0 H locs) (hA : ∀ q, q < H.size → A1 q → A0 q) (hf : ∀ q, free q → A0 q) (hAX : ∀ q, q < H.size → AX q → A0 q)
    (kx : ∀ (E : String) (ce : Cell) (q9 : Addr) (u : SX) (t : State) (H1 : Heap) (locs1 : List Loc), t.heap = H1 → s.vm.Alike t.vm → px u → BX E u t → H.size ≤ H1.size → (∀ q : Nat, q < H.size → ¬ AX q → H1[q]? = H[q]?) → va_S A0 H0 H1 locs1 → H1[q9]? = some ce → ce.vm = .none → s.vm.findClass E = some ce.cls → vx_W p l e R s m args below meth c H1 locs1 (cells + mc) (slots + ms) Q (F0 m pc ls rest) q9)
    (kk : ∀ (u : S) (t : State) (H1 : Heap) (locs1 : List Loc), t.heap = H1 → s.vm.Alike t.vm → post u → B u t → H.size ≤ H1.size → (∀ q : Nat, q < H.size → ¬ A1 q → H1[q]? = H[q]?) → va_S A0 H0 H1 locs1 → W p l e R s m args below meth c H1 locs1 (cells + mc) (slots + ms) Q (F0 m (pc + 3) ls (rest))) : W p l e R s m args below meth c H locs cells slots Q (F0 m pc ls st0) := by
  intro T hT X
  rcases hr T hT X with ⟨v, st₀, t, T', L, h0, X', hL, e1, e2, ⟨⟨u, hv, hp, hb⟩, hF⟩, st⟩ | ⟨q, st₀, t, T', L, E, ce, h0, X', hL, e1, e2, ⟨u, hp, hb, hF⟩, hce, hcv, hcl, st⟩
  · cases hv
    obtain ⟨k1, k2, k3⟩ := vx_keep h0 e1 hS hA hf hL hF
    obtain ⟨t2, a1, b1⟩ := kk u t T'.heap (locs ++ L) e1.symm (by rw [← e2]; exact X'.warmed.alike) hp hb k1 k2 k3 T' rfl X'
    exact ⟨t2, st t2 a1, b1⟩
  · obtain ⟨k1, k2, k3⟩ := vx_keep h0 e1 hS hAX hf hL hF
    obtain ⟨t2, a1, b1⟩ := kx E ce q u t T'.heap (locs ++ L) e1.symm (by rw [← e2]; exact X'.warmed.alike) hp hb k1 k2 k3 (by rw [e1]; exact hce) hcv hcl T' rfl X'
    exact ⟨t2, st.trans a1, b1⟩
/-- caught by the row x of this method's table; the rows ahead don't take it -/
theorem vx_catch {own name : String} {E : String} {ce : Cell} {q : Addr} (hown : s.vm.findClass own = some m.cls) (pre : List ExceptionTableEntry) (x : ExceptionTableEntry) (suf : List ExceptionTableEntry) (hsplit : c.exceptionTable.toList = pre ++ x :: suf)
    (hpass : ∀ z ∈ pre, covers z pc = false ∨ (z.catchType ≠ 0 ∧ ∃ nm : String, (Cond.classLink own z.catchType nm).before args s = true ∧ va_Nc E nm s)) (hx : covers x pc = true) (h0 : x.catchType ≠ 0)
    (hlink : (Cond.classLink own x.catchType name).before args s = true) (hcast : (Cond.castable E name).before args s = true) (hcell : H[q]? = some ce) (hv : ce.vm = .none) (hcl : s.vm.findClass E = some ce.cls)
    (kk : W p l e R s m args below meth c H locs cells slots Q (F0 m x.handlerPc ls [.ref q])) : vx_W p l e R s m args below meth c H locs cells slots Q (F0 m pc ls rest) q := by
  intro T hT X
  have hpl : e.platform.magicAccessors = ({} : Platform).magicAccessors := by rw [X.admits.platform]
  obtain ⟨c3, c4, hc3, hc4, hasg⟩ := Cond.castable_spec hcast
  cases Option.some.inj (hc3.symm.trans hcl)
  obtain ⟨c5, hc5, hcl5⟩ := Cond.classLink_spec hown hlink e.platform hpl
  cases Option.some.inj (hc4.symm.trans hc5)
  obtain ⟨vm', X', st⟩ := X.thenCaughtThrough q (g := F0 m pc ls rest) rfl (Steps.refl _) (by rw [hT]; exact hcell) (by rw [hv]; rfl) (by obtain ⟨k9, h9, -⟩ := Vm.findClass_spec hcl; exact ⟨k9, h9⟩) pre x suf hsplit
    (fun z hz => by
      rcases hpass z hz with h | ⟨hz0, nm, hl1, hn1⟩
      · exact Or.inl h
      · obtain ⟨c6, hc6, hcl6⟩ := Cond.classLink_spec hown hl1 e.platform hpl
        obtain ⟨a8, b8, h1, h2, h3⟩ := hn1
        cases Option.some.inj (h1.symm.trans hcl)
        cases Option.some.inj (h2.symm.trans hc6)
        exact Or.inr ⟨hz0, _, hcl6, h3⟩) hx (Or.inr ⟨h0, c4, hcl5, hasg⟩)
  obtain ⟨t, a1, b1⟩ := kk (T.setVm vm') hT X'
  exact ⟨t, st.trans a1, b1⟩
end Rows
section Ends
variable {p : Program} {l : Launch} {e : Env} {R : Room} {s : State} {m : MethodId} {args : Array Value} {below : List Frame} {meth : Method} {c : Code} {H : Heap} {locs : List Loc} {cells slots : Nat} {Q : State → Prop}
variable {mc ms : Nat} {free : Addr → Prop} {A0 A1 : Nat → Prop} {H0 : Heap} {a : Array Value} {ls : Array Slot} {st0 rest : List Value}
variable {Qc : Array Value → State → Outcome → State → Prop} {XC : String → State → State → Prop}
/-- what a body that may throw owes at its end -/
def vx_MQ (below : List Frame) (Qc : Array Value → State → Outcome → State → Prop) (XC : String → State → State → Prop) (a : Array Value) (s : State) (mc ms : Nat) (free : Addr → Prop) : State → Prop := fun t =>
  ∃ o, t.status = .running ∧ Ended t below o ∧ vx_Q Qc XC mc ms free a s o t
theorem vx_ret {g : JFrame} {mc ms : Nat} (k : W p l e R s m args below meth c H locs cells slots (MQ below Qc args s mc ms free) g) : W p l e R s m args below meth c H locs cells slots (vx_MQ below Qc XC args s mc ms free) g := by
  intro T hT X
  obtain ⟨t, a1, o, b1, b2, b3, b4⟩ := k T hT X
  exact ⟨t, a1, o, b1, b2, Or.inl ⟨b3, b4⟩⟩
/-- not caught here: it goes on to the caller -/
theorem vx_widen {g : JFrame} {q : Addr} {k n : Nat} (h1 : cells ≤ k) (h2 : slots ≤ n) (kk : vx_W p l e R s m args below meth c H locs k n Q g q) : vx_W p l e R s m args below meth c H locs cells slots Q g q := fun T hT X => kk T hT (stand_widen X h1 h2)
theorem vx_out {pc : Nat} {E : String} {ce : Cell} {q : Addr} {mc ms : Nat} (hout : ∀ x ∈ c.exceptionTable.toList, covers x pc = false) (hlocks : meth.locks = false) (hcell : H[q]? = some ce) (hv : ce.vm = .none) (hcl : s.vm.findClass E = some ce.cls)
    (hx : ∀ t : State, t.heap = H → s.vm.Alike t.vm → XC E s t) (hf : ∀ z ∈ locs, free z.base) (hc : cells ≤ mc) (hs : slots ≤ ms) :
    vx_W p l e R s m args below meth c H locs cells slots (vx_MQ below Qc XC args s mc ms free) (F0 m pc ls rest) q := by
  intro T hT X
  obtain ⟨st1, hrun, hend, hW, hsm⟩ := X.leaveThrown q (g := F0 m pc ls rest) rfl rfl rfl hout hlocks
  have hcell9 : (T.setFrames (.throwing q :: below)).heap[q]? = some ce := by
    show T.heap[q]? = some ce
    rw [hT]; exact hcell
  exact ⟨_, st1, .threw q, hrun, hend, Or.inr ⟨q, rfl, E, ce, locs, hx _ hT hW.alike, hcell9, hv, hcl, hW, hsm.mono hc hs, hf⟩⟩
theorem vx_frame {U : State} {k n : Nat} (h : s.sameButNew ({ U with vm := s.vm } : State) locs k n) : s.heap.size ≤ U.heap.size ∧ ∀ q : Nat, q < s.heap.size → (∀ z ∈ locs, z.base ≠ q) → U.heap[q]? = s.heap[q]? := by
  obtain ⟨-, h2, -, -, -, h6⟩ := h
  refine ⟨h2, fun q hq hz => ?_⟩
  obtain ⟨c9, e1, e2, e3, e4⟩ := h6 q _ (Array.getElem?_eq_getElem hq)
  have hs : c9.slots = (s.heap[q]).slots := Array.ext_getElem? fun i => e4 i fun hm => hz _ hm rfl
  have h9 : c9 = s.heap[q] := by
    rw [hs] at e2
    exact e2
  have e5 : U.heap[q]? = some c9 := e1
  rw [e5, h9, Array.getElem?_eq_getElem hq]
/-- the words of a throw but the four that speak of the heap -/
def vx_no (w : Cond) : Bool := decide (w ≠ .isRef (.static Bundle.tN "UNASSIGNED_STACK" Bundle.steD)) && decide (w ≠ .isRef (.static Bundle.tN "SUPPRESSED_SENTINEL" Bundle.listD)) && decide (w ≠ .laysStatic Bundle.tN "UNASSIGNED_STACK" Bundle.steD) && decide (w ≠ .laysStatic Bundle.tN "SUPPRESSED_SENTINEL" Bundle.listD)
def vx_at0 (own : String) (ic : Nat) (X : String) (names : List String) : List Cond := (Bundle.ownAtoms0 own ic X names).filter vx_no
def vx_atS (own : String) (ic : Nat) (X : String) (names : List String) : List Cond := (Bundle.ownAtoms own ic X names).filter vx_no
/-- a word that the tables alone decide, or a good one -/
def vx_ot (w : Cond) : Bool := w.onTables || goodWord w
theorem vx_ot_at {args a' : Array Value} {s U : State} {w : Cond} (hW : s.WarmedH U.vm) (hvm : s.vm = U.vm) (hg : vx_ot w = true) (h : w.before args s = true) : w.before a' U = true := by
  simp only [vx_ot, Bool.or_eq_true] at hg
  rcases hg with hg | hg
  · exact va_tabs hg hvm h
  · exact word_at hW (good_of_word hg) h
/-- a list's words: the good ones out of the method's own list, the others by premises of their own -/
theorem vx_hat {args : Array Value} {s : State} {L B : List Cond} (h1 : ∀ w ∈ L.filter goodWord, w.before args s = true) (h2 : ∀ w ∈ L.filter (fun w => !goodWord w), w ∈ B) (h3 : ∀ w ∈ B, w.before args s = true) : ∀ w ∈ L, w.before args s = true := by
  intro w hw
  by_cases g : goodWord w = true
  · exact h1 w (List.mem_filter.mpr ⟨hw, g⟩)
  · refine h3 w (h2 w (List.mem_filter.mpr ⟨hw, ?_⟩))
    show (!goodWord w) = true
    cases hgw : goodWord w
    · rfl
    · exact absurd hgw g
theorem vx_c {args : Array Value} {s : State} {w : Cond} {B : List Cond} (h : w.before args s = true) (t : ∀ w ∈ B, w.before args s = true) : ∀ w' ∈ w :: B, w'.before args s = true := fun w' h' => (List.mem_cons.mp h').elim (fun e => by rw [e]; exact h) (t w')
theorem vx_n {args : Array Value} {s : State} : ∀ w ∈ ([] : List Cond), w.before args s = true := fun _ h => nomatch h
theorem vx_own {args : Array Value} {s : State} {L : List Cond} (h1 : ∀ w ∈ L.filter vx_no, w.before args s = true)
    (hU : (Cond.isRef (.static Bundle.tN "UNASSIGNED_STACK" Bundle.steD)).before args s = true) (hN : (Cond.isRef (.static Bundle.tN "SUPPRESSED_SENTINEL" Bundle.listD)).before args s = true)
    (lU : (Cond.laysStatic Bundle.tN "UNASSIGNED_STACK" Bundle.steD).before args s = true) (lN : (Cond.laysStatic Bundle.tN "SUPPRESSED_SENTINEL" Bundle.listD).before args s = true) : ∀ w ∈ L, w.before args s = true := by
  intro w hw
  by_cases e1 : w = .isRef (.static Bundle.tN "UNASSIGNED_STACK" Bundle.steD)
  · rw [e1]; exact hU
  · by_cases e2 : w = .isRef (.static Bundle.tN "SUPPRESSED_SENTINEL" Bundle.listD)
    · rw [e2]; exact hN
    · by_cases e3 : w = .laysStatic Bundle.tN "UNASSIGNED_STACK" Bundle.steD
      · rw [e3]; exact lU
      · by_cases e4 : w = .laysStatic Bundle.tN "SUPPRESSED_SENTINEL" Bundle.listD
        · rw [e4]; exact lN
        · exact h1 w (List.mem_filter.mpr ⟨hw, by unfold vx_no; rw [decide_eq_true e1, decide_eq_true e2, decide_eq_true e3, decide_eq_true e4]; rfl⟩)
/-- where a static field lies, its class's statics cell in H -/
def vx_L (C n d : String) (A : Nat → Prop) (U : State) (H : Heap) : Prop := ∃ (c : ClassId) (k : Class) (i : Nat) (f : Field) (a : Nat) (cell : Cell), U.vm.findClass C = some c ∧ U.fieldFound? C n d = some (c, k, i, f) ∧ f.isStatic = true ∧ k.statics = some a ∧ H[a]? = some cell ∧ cell.vm.isStatics = true ∧ cell.cls = c ∧ f.slot < cell.slots.size ∧ k.staticTypes[f.slot]? = some f.type ∧ ¬ A a
theorem vx_L.moved {C n d : String} {A : Nat → Prop} {u U : State} {H : Heap} (hvm : u.vm.Alike U.vm) (h : vx_L C n d A u H) : vx_L C n d A U H := by
  obtain ⟨c, k, i, f, a, cell, h1, h2, h3, h4, h5, h6, h7, h8, h9, h10⟩ := h
  obtain ⟨k', hi', he⟩ := State.fieldFound?_setVm hvm h2
  exact ⟨c, k', i, f, a, cell, by rw [hvm.findClass]; exact h1, hi', h3, by rw [he]; exact h4, h5, h6, h7, h8, by rw [he]; exact h9, h10⟩
theorem vx_L.kept {C n d : String} {A : Nat → Prop} {U : State} {H H1 : Heap} (h : vx_L C n d A U H) (hq : ∀ a : Nat, a < H.size → ¬ A a → H1[a]? = H[a]?) : vx_L C n d A U H1 := by
  obtain ⟨c, k, i, f, a, cell, h1, h2, h3, h4, h5, h6, h7, h8, h9, h10⟩ := h
  exact ⟨c, k, i, f, a, cell, h1, h2, h3, h4, by rw [hq a (Array.getElem?_eq_some_iff.mp h5).1 h10]; exact h5, h6, h7, h8, h9, h10⟩
theorem vx_L.narrow {C n d : String} {A B : Nat → Prop} {U : State} {H : Heap} (h : vx_L C n d A U H) (hAB : ∀ q, B q → A q) : vx_L C n d B U H := by
  obtain ⟨c, k, i, f, a, cell, h1, h2, h3, h4, h5, h6, h7, h8, h9, h10⟩ := h
  exact ⟨c, k, i, f, a, cell, h1, h2, h3, h4, h5, h6, h7, h8, h9, fun z => h10 (hAB _ z)⟩
theorem vx_L.word {C n d : String} {A : Nat → Prop} {s : State} {args : Array Value} (h : vx_L C n d A s s.heap) : (Cond.laysStatic C n d).before args s = true := by
  obtain ⟨c, k, i, f, a, cell, h1, h2, h3, h4, h5, h6, h7, h8, h9, -⟩ := h
  show (Cond.laysStatic C n d).holds args s none s [] = true
  exact Cond.laysStatic_of h1 h2 h3 h4 h5 h6 h7 h8 h9
/-- .. and what it holds: null or some reference -/
def vx_Zq (C n d : String) (A : Nat → Prop) (U : State) (H : Heap) : Prop := va_Zq C n d A U H ∧ vx_L C n d A U H
theorem vx_Zq.moved {C n d : String} {A : Nat → Prop} {u U : State} {H : Heap} (hvm : u.vm.Alike U.vm) (h : vx_Zq C n d A u H) : vx_Zq C n d A U H := ⟨va_Zq.moved hvm h.1, vx_L.moved hvm h.2⟩
theorem vx_Zq.kept {C n d : String} {A : Nat → Prop} {U : State} {H H1 : Heap} (h : vx_Zq C n d A U H) (hq : ∀ a : Nat, a < H.size → ¬ A a → H1[a]? = H[a]?) : vx_Zq C n d A U H1 := ⟨va_Zq.kept h.1 hq, vx_L.kept h.2 hq⟩
theorem vx_Zq.narrow {C n d : String} {A B : Nat → Prop} {U : State} {H : Heap} (h : vx_Zq C n d A U H) (hAB : ∀ q, B q → A q) : vx_Zq C n d B U H := ⟨va_Zq.narrow h.1 hAB, vx_L.narrow h.2 hAB⟩
theorem vx_Zqof {args : Array Value} {s : State} {C n d : String} {A : Nat → Prop} (hl : (Cond.laysStatic C n d).before args s = true) (hini : (Cond.initialized C).before args s = true) (h : (Cond.isRef (.static C n d)).before args s = true) (hA : ∀ a : Nat, a < s.heap.size → ¬ A a) : vx_Zq C n d A s s.heap := by
  refine ⟨va_Zqof hl hini h hA, ?_⟩
  obtain ⟨c, k, i, f, a, cell, h1, h2, h3, h4, h5, h6, h7, h8, h9⟩ := Cond.laysStatic_spec hl
  exact ⟨c, k, i, f, a, cell, h1, h2, h3, h4, h5, h6, h7, h8, h9, hA a (Array.getElem?_eq_some_iff.mp h5).1⟩
theorem vx_isRef {C n d : String} {v : Value} {A : Nat → Prop} {s : State} {args : Array Value} (h : va_Z C n d v A s s.heap) (hv : v.isRef = true) : (Cond.isRef (.static C n d)).before args s = true := by
  obtain ⟨cf, kf, fi, f, a, cell, h1, h2, h3, h4, h5, h6, h7, -⟩ := h
  have he : (Term.static C n d).eval args s none [] s = some v := by
    simp [Term.eval, State.fieldNamed?, h1, h2, h4, h5, h6, h7]
  simp only [Cond.before, Cond.holds, Cond.value, he]
  cases v <;> simp_all [Value.isRef]
theorem vx_isRefq {C n d : String} {A : Nat → Prop} {s : State} {args : Array Value} (h : va_Zq C n d A s s.heap) : (Cond.isRef (.static C n d)).before args s = true := by
  rcases h with h | ⟨t, h⟩
  · exact vx_isRef h rfl
  · exact vx_isRef h rfl
/-- the same frame, seen from here: as if the method were called anew in this heap -/
theorem vx_rebase {T : State} (X : Stand p l e R s m args below meth c T locs cells slots) {R' : Room} (hf : R'.frames ≤ R.frames) (hl : R'.locals ≤ R.locals) (hc : cells + R'.cells ≤ R.cells) (hs : slots + R'.slots ≤ R.slots) :
    Stand p l e R' ((T.setVm s.vm).setFrames (.invoking m args :: below)) m args below meth c T [] 0 0 := by
  have htop : (T.setVm s.vm).topJava?.isSome := X.here.top
  have hF : ((T.setVm s.vm).setFrames (.invoking m args :: below)).frames = .invoking m args :: below := State.frames_setFrames _ (State.cur_lt_of_top htop)
  obtain ⟨g₀, hg0⟩ := Option.isSome_iff_exists.mp htop
  obtain ⟨r, hr⟩ := State.topJava?_eq_some.mp hg0
  have hl9 : e.platform.stackLimits (T.setVm s.vm).me = e.platform.stackLimits s.me := X.limits
  have hb9 : (T.setVm s.vm).me.stackBytes = s.me.stackBytes := X.bytes
  refine ⟨X.admits, X.cas, X.clock, hF, ?_, X.hears, X.method, X.code, X.here, X.tail, X.warmed, ?_, ?_, ?_⟩
  · have h := X.room
    have hU : ((T.setVm s.vm).setFrames (.invoking m args :: below)).localsInUse = s.localsInUse := by
      rw [State.localsInUse_invoking hF (meth := meth) (c := c) X.method X.code, State.localsInUse_invoking X.frames X.method X.code]
    simp only [State.hasRoom, Bool.and_eq_true, decide_eq_true_eq] at h ⊢
    obtain ⟨⟨⟨⟨h1, h2, h3, h4, h5, h6⟩, h7⟩, h8⟩, h9⟩ := h
    rw [X.frames, List.length_cons] at h2 h3
    have q1 := X.heapSize
    have q2 := X.used
    simp only [hF, hU, List.length_cons, State.stackLimits_setFrames, State.stackBytes_setFrames, hl9, hb9]
    refine ⟨⟨⟨⟨by omega, by omega, by omega, by omega, by omega, h6⟩, ?_⟩, ?_⟩, X.book⟩
    · show T.heap.size + R'.cells ≤ e.platform.maxCells
      omega
    · show T.slotsUsed + R'.slots ≤ e.platform.maxSlots
      omega
  · rw [State.stackLimits_setFrames]; rfl
  · rw [State.stackBytes_setFrames]; rfl
  · refine ⟨?_, Nat.le_refl _, Nat.le_refl _, ?_, ?_, fun a c9 h9 => ⟨c9, h9, rfl, rfl, fun _ _ => rfl⟩⟩
    · obtain ⟨t, ht, -⟩ := State.frames_cons hr
      show T.setVm s.vm = { ((T.setVm s.vm).setFrames (.invoking m args :: below)).setFrames (T.setVm s.vm).frames with heap := T.heap, slotsUsed := T.slotsUsed }
      rw [State.setFrames_setFrames, State.setFrames_self ht]
      rfl
    · show T.slotsUsed = T.slotsUsed + ((T.heap.toList.drop T.heap.size).map (·.slots.size)).sum
      rw [List.drop_eq_nil_of_le (Nat.le_of_eq Array.length_toList)]
      rfl
    · show ((T.heap.toList.drop T.heap.size).map (·.slots.size)).sum ≤ 0
      rw [List.drop_eq_nil_of_le (Nat.le_of_eq Array.length_toList)]
      exact Nat.le_refl _
/-- 'throw new E()': new; dup; invokespecial; athrow -/
theorem vx_throw0 {cc : ByteArray} {pc : Nat} (hexec : p.tables.exec = Jvm.exec) (hb : c.code = cc) (hl : l.stackTraces = false) {own cls : String} {names : List String} {ik ic mc ms : Nat} {A : Nat → Prop}
    (hown : s.vm.findClass own = some m.cls) (hcls : Bundle.fit cls = true) (hnames : ∀ n ∈ names, Bundle.fit n = true)
    (hk : (Cond.classLink own ik cls).before args s = true) (hini : (Cond.initialized cls).before args s = true) (hat : ∀ w ∈ vx_at0 own ic cls names, w.before args s = true)
    (hgood : ∀ w ∈ Cond.classLink own ik cls :: Cond.initialized cls :: vx_at0 own ic cls names, vx_ot w = true)
    (hU : vx_Zq Bundle.tN "UNASSIGNED_STACK" Bundle.steD A s s.heap) (hN : vx_Zq Bundle.tN "SUPPRESSED_SENTINEL" Bundle.listD A s s.heap) (hS : va_S A s.heap H locs) (hsize : ls.size = c.maxLocals)
    (d0 : decode cc pc = .ok (.new ik, 3)) (d3 : decode cc (pc + 3) = .ok (.dup, 1)) (d4 : decode cc (pc + 4) = .ok (.invokespecial ic, 3)) (d7 : decode cc (pc + 7) = .ok (.athrow, 1))
    (hout : ∀ x ∈ c.exceptionTable.toList, covers x (pc + 7) = false)
    (hRframes : names.length + 3 < R.frames) (hRlocals : (rest.map fun v => v.category).sum + (13 * (names.length + 1) + 42) ≤ R.locals) (hRcells : cells + 1 ≤ R.cells) (hRslots : slots + 6 ≤ R.slots) (hlocks : meth.locks = false)
    (hx : ∀ t : State, s.vm.Alike t.vm → H.size ≤ t.heap.size → (∀ q : Nat, q < H.size → t.heap[q]? = H[q]?) → XC cls s t)
    (hf : ∀ z ∈ locs, free z.base) (hc : cells + 1 ≤ mc) (hs : slots + 6 ≤ ms) :
    W p l e R s m args below meth c H locs cells slots (vx_MQ below Qc XC args s mc ms free) (F0 m pc ls rest) := by
  intro T hT X
  have htr : e.platform.stackTraces = false := (show e.platform.stackTraces = l.stackTraces by rw [X.admits.platform]).trans hl
  have Y := vx_rebase X (R' := { frames := R.frames, locals := R.locals, cells := 1, slots := 6 }) (Nat.le_refl _) (Nat.le_refl _) hRcells hRslots
  obtain ⟨s', hA⟩ : ∃ z, z = (T.setVm s.vm).setFrames (.invoking m args :: below) := ⟨_, rfl⟩
  rw [← hA] at Y
  have hvm : s'.vm = s.vm := by rw [hA]; rfl
  have hhp : s'.heap = H := by rw [hA]; exact hT
  have hW0 : s.WarmedH s'.vm := by rw [hvm]; exact State.WarmedH.refl s
  have hat' : ∀ w ∈ vx_at0 own ic cls names, w.before args s' = true := fun w hw => vx_ot_at hW0 hvm.symm (hgood w (List.mem_cons_of_mem _ (List.mem_cons_of_mem _ hw))) (hat w hw)
  have hk' : (Cond.classLink own ik cls).before args s' = true := vx_ot_at hW0 hvm.symm (hgood _ List.mem_cons_self) hk
  have hini' : (Cond.initialized cls).before args s' = true := vx_ot_at hW0 hvm.symm (hgood _ (List.mem_cons_of_mem _ List.mem_cons_self)) hini
  have hU' : vx_Zq Bundle.tN "UNASSIGNED_STACK" Bundle.steD A s' s'.heap := by rw [hhp]; exact vx_Zq.moved hW0.alike (hU.kept hS.2.1)
  have hN' : vx_Zq Bundle.tN "SUPPRESSED_SENTINEL" Bundle.listD A s' s'.heap := by rw [hhp]; exact vx_Zq.moved hW0.alike (hN.kept hS.2.1)
  have h : ∀ w ∈ Bundle.ownAtoms0 own ic cls names, w.before args s' = true := vx_own hat' (vx_isRefq hU'.1) (vx_isRefq hN'.1) hU'.2.word hN'.2.word
  have hown' : s'.vm.findClass own = some m.cls := by rw [hvm]; exact hown
  have hins : (Cond.instantiable cls 6).before args s' = true := h _ (by simp [Bundle.ownAtoms0])
  obtain ⟨vm₁, cX, kX, hfX, hkX, -, -, X₁, st1⟩ := Y.newCold hexec (own := own) (C := cls) (index := ik) (n := 6) hown' hk' hins hini'
    (g := F0 m pc ls rest) rfl (by rw [hb]; exact d0) (Nat.le_refl _) (Nat.le_refl _)
  generalize hT1 : (T.setVm vm₁).pushCell { cls := cX, slots := kX.instanceTypes.map defaultValue, vm := .none } = T1 at X₁ st1
  have hcat : (Value.ref T.heap.size).category = 1 := rfl
  have hcellA : T1.heap[T.heap.size]? = some (freshCell cX kX) := by rw [← hT1]; exact State.heap_pushCell_size _ _
  have d3' : decode c.code (pc + 3) = .ok (.dup, 1) := by rw [hb]; exact d3
  obtain ⟨U, hsteps, hrun, hend, hW, hsame, ce, hce, hO⟩ := X₁.ctorThrow0 hexec htr (own := own) (cls := cls) (names := names) (ic := ic) hown' hcls hnames h (fun x hx => nomatch hx) hfX hkX hcellA (by rw [hhp, hT]; exact Nat.le_refl _)
    (g := { method := m, pc := pc + 4, locals := ls, stack := .ref T.heap.size :: .ref T.heap.size :: rest, locked := none }) rfl hsize rfl rfl (rest := rest) rfl
    (by rw [hb]; exact d4) (by rw [hb]; exact d7) hout hRframes (by simp only [List.map_cons, List.sum_cons, hcat]; omega) hlocks
  obtain ⟨f1, f2⟩ := vx_frame hsame
  rw [hhp] at f1 f2
  have hWs : s.WarmedH U.vm := State.WarmedH.trans hW0 hW
  have hcl : s.vm.findClass cls = some ce.cls := by
    have h9 := hO.cls
    rw [hvm] at h9
    exact h9
  have hall : s.sameButNew ({ U with vm := s.vm } : State) locs mc ms := by
    subst hA
    obtain ⟨e1, e2⟩ := hsame
    rw [State.setFrames_setFrames] at e1
    have h2 : (T.setVm s.vm).sameButNew ({ U with vm := s.vm } : State) [] (0 + 1) (0 + 6) := ⟨e1, e2⟩
    have h3 := X.same.trans h2
    rw [List.append_nil] at h3
    exact h3.mono hc hs
  refine ⟨U, ?_, .threw T.heap.size, hrun, hend, Or.inr ⟨T.heap.size, rfl, cls, ce, locs, hx U hWs.alike f1 (fun q hq => f2 q hq (fun z hz => nomatch hz)), hce, hO.vm, hcl, hWs, hall, hf⟩⟩
  refine st1 _ ?_
  show Steps p.tables e below (T1.setTop { method := m, pc := pc + 3, locals := ls, stack := .ref T.heap.size :: rest, locked := none }) _
  jvm_step X₁.here [X₁.here.top, hexec, d3', Value.category]
  exact hsteps
/-- 'throw new E("text")': new; dup; ldc; invokespecial; athrow -/
theorem vx_throwS {cc : ByteArray} {pc : Nat} (hexec : p.tables.exec = Jvm.exec) (hb : c.code = cc) (hl : l.stackTraces = false) {own cls text : String} {names : List String} {ik is ic mc ms sa : Nat} {A : Nat → Prop}
    (hown : s.vm.findClass own = some m.cls) (hcls : Bundle.fit cls = true) (hnames : ∀ n ∈ names, Bundle.fit n = true)
    (hk : (Cond.classLink own ik cls).before args s = true) (hini : (Cond.initialized cls).before args s = true) (hstr : vk_R own is text sa s) (hat : ∀ w ∈ vx_atS own ic cls names, w.before args s = true)
    (hgood : ∀ w ∈ Cond.classLink own ik cls :: Cond.initialized cls :: vx_atS own ic cls names, vx_ot w = true)
    (hU : vx_Zq Bundle.tN "UNASSIGNED_STACK" Bundle.steD A s s.heap) (hN : vx_Zq Bundle.tN "SUPPRESSED_SENTINEL" Bundle.listD A s s.heap) (hS : va_S A s.heap H locs) (hsize : ls.size = c.maxLocals)
    (d0 : decode cc pc = .ok (.new ik, 3)) (d3 : decode cc (pc + 3) = .ok (.dup, 1)) (d4 : decode cc (pc + 4) = .ok (.ldc is, 2)) (d6 : decode cc (pc + 6) = .ok (.invokespecial ic, 3)) (d9 : decode cc (pc + 9) = .ok (.athrow, 1))
    (hout : ∀ x ∈ c.exceptionTable.toList, covers x (pc + 9) = false)
    (hRframes : names.length + 3 < R.frames) (hRlocals : (rest.map fun v => v.category).sum + (13 * (names.length + 1) + 43) ≤ R.locals) (hRcells : cells + 1 ≤ R.cells) (hRslots : slots + 6 ≤ R.slots) (hlocks : meth.locks = false)
    (hx : ∀ t : State, s.vm.Alike t.vm → H.size ≤ t.heap.size → (∀ q : Nat, q < H.size → t.heap[q]? = H[q]?) → XC cls s t)
    (hf : ∀ z ∈ locs, free z.base) (hc : cells + 1 ≤ mc) (hs : slots + 6 ≤ ms) :
    W p l e R s m args below meth c H locs cells slots (vx_MQ below Qc XC args s mc ms free) (F0 m pc ls rest) := by
  intro T hT X
  have htr : e.platform.stackTraces = false := (show e.platform.stackTraces = l.stackTraces by rw [X.admits.platform]).trans hl
  have Y := vx_rebase X (R' := { frames := R.frames, locals := R.locals, cells := 1, slots := 6 }) (Nat.le_refl _) (Nat.le_refl _) hRcells hRslots
  obtain ⟨s', hA⟩ : ∃ z, z = (T.setVm s.vm).setFrames (.invoking m args :: below) := ⟨_, rfl⟩
  rw [← hA] at Y
  have hvm : s'.vm = s.vm := by rw [hA]; rfl
  have hhp : s'.heap = H := by rw [hA]; exact hT
  have hW0 : s.WarmedH s'.vm := by rw [hvm]; exact State.WarmedH.refl s
  have hat' : ∀ w ∈ vx_atS own ic cls names, w.before args s' = true := fun w hw => vx_ot_at hW0 hvm.symm (hgood w (List.mem_cons_of_mem _ (List.mem_cons_of_mem _ hw))) (hat w hw)
  have hk' : (Cond.classLink own ik cls).before args s' = true := vx_ot_at hW0 hvm.symm (hgood _ List.mem_cons_self) hk
  have hini' : (Cond.initialized cls).before args s' = true := vx_ot_at hW0 hvm.symm (hgood _ (List.mem_cons_of_mem _ List.mem_cons_self)) hini
  have hU' : vx_Zq Bundle.tN "UNASSIGNED_STACK" Bundle.steD A s' s'.heap := by rw [hhp]; exact vx_Zq.moved hW0.alike (hU.kept hS.2.1)
  have hN' : vx_Zq Bundle.tN "SUPPRESSED_SENTINEL" Bundle.listD A s' s'.heap := by rw [hhp]; exact vx_Zq.moved hW0.alike (hN.kept hS.2.1)
  have h : ∀ w ∈ Bundle.ownAtoms own ic cls names, w.before args s' = true := vx_own hat' (vx_isRefq hU'.1) (vx_isRefq hN'.1) hU'.2.word hN'.2.word
  have hown' : s'.vm.findClass own = some m.cls := by rw [hvm]; exact hown
  have hins : (Cond.instantiable cls 6).before args s' = true := h _ (by simp [Bundle.ownAtoms])
  obtain ⟨vm₁, cX, kX, hfX, hkX, -, -, X₁, st1⟩ := Y.newCold hexec (own := own) (C := cls) (index := ik) (n := 6) hown' hk' hins hini'
    (g := F0 m pc ls rest) rfl (by rw [hb]; exact d0) (Nat.le_refl _) (Nat.le_refl _)
  generalize hT1 : (T.setVm vm₁).pushCell { cls := cX, slots := kX.instanceTypes.map defaultValue, vm := .none } = T1 at X₁ st1
  have hcat : (Value.ref T.heap.size).category = 1 := rfl
  have hcellA : T1.heap[T.heap.size]? = some (freshCell cX kX) := by rw [← hT1]; exact State.heap_pushCell_size _ _
  have d3' : decode c.code (pc + 3) = .ok (.dup, 1) := by rw [hb]; exact d3
  have d4' : decode c.code (pc + 4) = .ok (.ldc is, 2) := by rw [hb]; exact d4
  have hstr' : vk_R own is text sa s' := vk_R.warm hW0 hstr
  obtain ⟨U, hsteps, hrun, hend, hW, hsame, ce, hce, hO⟩ := X₁.ctorThrowS hexec htr (own := own) (cls := cls) (names := names) (ic := ic) hown' hcls hnames h (fun x hx => nomatch hx) hfX hkX hcellA (by rw [hhp, hT]; exact Nat.le_refl _) (msg := .ref sa) rfl
    (g := { method := m, pc := pc + 6, locals := ls, stack := .ref sa :: .ref T.heap.size :: .ref T.heap.size :: rest, locked := none }) rfl hsize rfl rfl (rest := rest) rfl
    (by rw [hb]; exact d6) (by rw [hb]; exact d9) hout hRframes (by simp only [List.map_cons, List.sum_cons, hcat]; omega) hlocks
  obtain ⟨f1, f2⟩ := vx_frame hsame
  rw [hhp] at f1 f2
  have hWs : s.WarmedH U.vm := State.WarmedH.trans hW0 hW
  have hcl : s.vm.findClass cls = some ce.cls := by
    have h9 := hO.cls
    rw [hvm] at h9
    exact h9
  have hall : s.sameButNew ({ U with vm := s.vm } : State) locs mc ms := by
    subst hA
    obtain ⟨e1, e2⟩ := hsame
    rw [State.setFrames_setFrames] at e1
    have h2 : (T.setVm s.vm).sameButNew ({ U with vm := s.vm } : State) [] (0 + 1) (0 + 6) := ⟨e1, e2⟩
    have h3 := X.same.trans h2
    rw [List.append_nil] at h3
    exact h3.mono hc hs
  refine ⟨U, ?_, .threw T.heap.size, hrun, hend, Or.inr ⟨T.heap.size, rfl, cls, ce, locs, hx U hWs.alike f1 (fun q hq => f2 q hq (fun z hz => nomatch hz)), hce, hO.vm, hcl, hWs, hall, hf⟩⟩
  refine st1 _ ?_
  show Steps p.tables e below (T1.setTop { method := m, pc := pc + 3, locals := ls, stack := .ref T.heap.size :: rest, locked := none }) _
  jvm_step X₁.here [X₁.here.top, hexec, d3', Value.category]
  exact X₁.ldcString hexec (own := own) (text := text) (index := is) (a := sa) hown' hstr'.1 hstr'.2
    (g := { method := m, pc := pc + 4, locals := ls, stack := .ref T.heap.size :: .ref T.heap.size :: rest, locked := none }) rfl d4' _ hsteps
/-- 'throw new E("text")', the text by a wide index -/
theorem vx_throwSW {cc : ByteArray} {pc : Nat} (hexec : p.tables.exec = Jvm.exec) (hb : c.code = cc) (hl : l.stackTraces = false) {own cls text : String} {names : List String} {ik is ic mc ms sa : Nat} {A : Nat → Prop}
    (hown : s.vm.findClass own = some m.cls) (hcls : Bundle.fit cls = true) (hnames : ∀ n ∈ names, Bundle.fit n = true)
    (hk : (Cond.classLink own ik cls).before args s = true) (hini : (Cond.initialized cls).before args s = true) (hstr : vk_R own is text sa s) (hat : ∀ w ∈ vx_atS own ic cls names, w.before args s = true)
    (hgood : ∀ w ∈ Cond.classLink own ik cls :: Cond.initialized cls :: vx_atS own ic cls names, vx_ot w = true)
    (hU : vx_Zq Bundle.tN "UNASSIGNED_STACK" Bundle.steD A s s.heap) (hN : vx_Zq Bundle.tN "SUPPRESSED_SENTINEL" Bundle.listD A s s.heap) (hS : va_S A s.heap H locs) (hsize : ls.size = c.maxLocals)
    (d0 : decode cc pc = .ok (.new ik, 3)) (d3 : decode cc (pc + 3) = .ok (.dup, 1)) (d4 : decode cc (pc + 4) = .ok (.ldc_w is, 3)) (d7 : decode cc (pc + 7) = .ok (.invokespecial ic, 3)) (d10 : decode cc (pc + 10) = .ok (.athrow, 1))
    (hout : ∀ x ∈ c.exceptionTable.toList, covers x (pc + 10) = false)
    (hRframes : names.length + 3 < R.frames) (hRlocals : (rest.map fun v => v.category).sum + (13 * (names.length + 1) + 43) ≤ R.locals) (hRcells : cells + 1 ≤ R.cells) (hRslots : slots + 6 ≤ R.slots) (hlocks : meth.locks = false)
    (hx : ∀ t : State, s.vm.Alike t.vm → H.size ≤ t.heap.size → (∀ q : Nat, q < H.size → t.heap[q]? = H[q]?) → XC cls s t)
    (hf : ∀ z ∈ locs, free z.base) (hc : cells + 1 ≤ mc) (hs : slots + 6 ≤ ms) :
    W p l e R s m args below meth c H locs cells slots (vx_MQ below Qc XC args s mc ms free) (F0 m pc ls rest) := by
  intro T hT X
  have htr : e.platform.stackTraces = false := (show e.platform.stackTraces = l.stackTraces by rw [X.admits.platform]).trans hl
  have Y := vx_rebase X (R' := { frames := R.frames, locals := R.locals, cells := 1, slots := 6 }) (Nat.le_refl _) (Nat.le_refl _) hRcells hRslots
  obtain ⟨s', hA⟩ : ∃ z, z = (T.setVm s.vm).setFrames (.invoking m args :: below) := ⟨_, rfl⟩
  rw [← hA] at Y
  have hvm : s'.vm = s.vm := by rw [hA]; rfl
  have hhp : s'.heap = H := by rw [hA]; exact hT
  have hW0 : s.WarmedH s'.vm := by rw [hvm]; exact State.WarmedH.refl s
  have hat' : ∀ w ∈ vx_atS own ic cls names, w.before args s' = true := fun w hw => vx_ot_at hW0 hvm.symm (hgood w (List.mem_cons_of_mem _ (List.mem_cons_of_mem _ hw))) (hat w hw)
  have hk' : (Cond.classLink own ik cls).before args s' = true := vx_ot_at hW0 hvm.symm (hgood _ List.mem_cons_self) hk
  have hini' : (Cond.initialized cls).before args s' = true := vx_ot_at hW0 hvm.symm (hgood _ (List.mem_cons_of_mem _ List.mem_cons_self)) hini
  have hU' : vx_Zq Bundle.tN "UNASSIGNED_STACK" Bundle.steD A s' s'.heap := by rw [hhp]; exact vx_Zq.moved hW0.alike (hU.kept hS.2.1)
  have hN' : vx_Zq Bundle.tN "SUPPRESSED_SENTINEL" Bundle.listD A s' s'.heap := by rw [hhp]; exact vx_Zq.moved hW0.alike (hN.kept hS.2.1)
  have h : ∀ w ∈ Bundle.ownAtoms own ic cls names, w.before args s' = true := vx_own hat' (vx_isRefq hU'.1) (vx_isRefq hN'.1) hU'.2.word hN'.2.word
  have hown' : s'.vm.findClass own = some m.cls := by rw [hvm]; exact hown
  have hins : (Cond.instantiable cls 6).before args s' = true := h _ (by simp [Bundle.ownAtoms])
  obtain ⟨vm₁, cX, kX, hfX, hkX, -, -, X₁, st1⟩ := Y.newCold hexec (own := own) (C := cls) (index := ik) (n := 6) hown' hk' hins hini'
    (g := F0 m pc ls rest) rfl (by rw [hb]; exact d0) (Nat.le_refl _) (Nat.le_refl _)
  generalize hT1 : (T.setVm vm₁).pushCell { cls := cX, slots := kX.instanceTypes.map defaultValue, vm := .none } = T1 at X₁ st1
  have hcat : (Value.ref T.heap.size).category = 1 := rfl
  have hcellA : T1.heap[T.heap.size]? = some (freshCell cX kX) := by rw [← hT1]; exact State.heap_pushCell_size _ _
  have d3' : decode c.code (pc + 3) = .ok (.dup, 1) := by rw [hb]; exact d3
  have d4' : decode c.code (pc + 4) = .ok (.ldc_w is, 3) := by rw [hb]; exact d4
  have hstr' : vk_R own is text sa s' := vk_R.warm hW0 hstr
  obtain ⟨U, hsteps, hrun, hend, hW, hsame, ce, hce, hO⟩ := X₁.ctorThrowS hexec htr (own := own) (cls := cls) (names := names) (ic := ic) hown' hcls hnames h (fun x hx => nomatch hx) hfX hkX hcellA (by rw [hhp, hT]; exact Nat.le_refl _) (msg := .ref sa) rfl
    (g := { method := m, pc := pc + 7, locals := ls, stack := .ref sa :: .ref T.heap.size :: .ref T.heap.size :: rest, locked := none }) rfl hsize rfl rfl (rest := rest) rfl
    (by rw [hb]; exact d7) (by rw [hb]; exact d10) hout hRframes (by simp only [List.map_cons, List.sum_cons, hcat]; omega) hlocks
  obtain ⟨f1, f2⟩ := vx_frame hsame
  rw [hhp] at f1 f2
  have hWs : s.WarmedH U.vm := State.WarmedH.trans hW0 hW
  have hcl : s.vm.findClass cls = some ce.cls := by
    have h9 := hO.cls
    rw [hvm] at h9
    exact h9
  have hall : s.sameButNew ({ U with vm := s.vm } : State) locs mc ms := by
    subst hA
    obtain ⟨e1, e2⟩ := hsame
    rw [State.setFrames_setFrames] at e1
    have h2 : (T.setVm s.vm).sameButNew ({ U with vm := s.vm } : State) [] (0 + 1) (0 + 6) := ⟨e1, e2⟩
    have h3 := X.same.trans h2
    rw [List.append_nil] at h3
    exact h3.mono hc hs
  refine ⟨U, ?_, .threw T.heap.size, hrun, hend, Or.inr ⟨T.heap.size, rfl, cls, ce, locs, hx U hWs.alike f1 (fun q hq => f2 q hq (fun z hz => nomatch hz)), hce, hO.vm, hcl, hWs, hall, hf⟩⟩
  refine st1 _ ?_
  show Steps p.tables e below (T1.setTop { method := m, pc := pc + 3, locals := ls, stack := .ref T.heap.size :: rest, locked := none }) _
  jvm_step X₁.here [X₁.here.top, hexec, d3', Value.category]
  exact X₁.ldcStringW hexec (own := own) (text := text) (index := is) (a := sa) hown' hstr'.1 hstr'.2
    (g := { method := m, pc := pc + 4, locals := ls, stack := .ref T.heap.size :: .ref T.heap.size :: rest, locked := none }) rfl d4' _ hsteps
end Ends
section Bodies
variable {l : Launch}
theorem vx_ofW {y : MethodName} {ws ws' : List Cond} {rm : Room} {Pc : Array Value → State → Prop} {Qc : Array Value → State → Outcome → State → Prop} {XC : String → State → State → Prop} {mc ms : Nat} {free : Addr → Prop} {cc : ByteArray} {maxL : Nat} {ret : Option FieldType}
    (hy : plainName y.cls = true) (hw : ws = Cond.code y cc maxL ret :: ws')
    (body : ∀ p e s m args below meth c s₁, BodyLoose p l y (headSpec ws rm) cc maxL ret e s m args below meth c s₁ → c.maxLocals = maxL → (∀ x ∈ c.exceptionTable.toList, False) → Pc args s →
      W p l e (headSpec ws rm).room s m args below meth c s.heap [] 0 0 (vx_MQ below Qc XC args s mc ms free) (entryFrame m args maxL)) : vx_Met l y ws rm Pc Qc XC mc ms free := by
  refine MetFree.of_bodyS (code := cc) (maxLocals := maxL) (ret := ret) hy ?_ ?_
  · intro args s m h hn
    obtain ⟨meth, c, h1, h2, h3, h4, h5, h6, -, -⟩ := Cond.code_spec hn (atoms_spec (ws := ws) h _ (by rw [hw]; exact List.mem_cons_self))
    exact ⟨meth, c, h1, h2, h3, h4, h5, h6⟩
  · intro p e s m args below meth c s₁ B hml hP _
    have hh0 : s₁.heap = s.heap := by rw [B.state]; rfl
    have ht : ∀ x ∈ c.exceptionTable.toList, False := by
      obtain ⟨meth9, c9, h1, h2, -, -, -, -, h7, -⟩ := Cond.code_spec B.named (atoms_spec (ws := ws) B.pre _ (by rw [hw]; exact List.mem_cons_self))
      cases Option.some.inj (h1.symm.trans B.method)
      cases Option.some.inj (h2.symm.trans (Stand.of_body B).code)
      intro x hx
      rw [Array.isEmpty_iff.mp h7] at hx
      cases hx
    obtain ⟨t, a1, o, b1, b2, b3⟩ := body p e s m args below meth c s₁ B hml ht hP s₁ hh0 (Stand.of_body B)
    exact ⟨t, o, a1, b1, b2, b3⟩
/-- the table of a body with handlers -/
theorem vx_table {p : Program} {x y : MethodName} {S : Spec} {cc bytes : ByteArray} {maxL maxL' : Nat} {ret ret' : Option FieldType} {e : Env} {s s₁ : State} {m : MethodId} {args : Array Value} {below : List Frame} {meth : Method} {c : Code} {hh : List (Nat × Nat × Nat × Nat)}
    (B : BodyLoose p l y S cc maxL ret e s m args below meth c s₁) (h : (Cond.codeWith y bytes maxL' ret' hh).before args s = true) : c.exceptionTable.toList = tableOf hh := by
  obtain ⟨m9, meth9, c9, hn9, h1, h2, -, -, h6, -⟩ := Cond.codeWith_spec h
  cases Option.some.inj (hn9.symm.trans B.named)
  cases Option.some.inj (h1.symm.trans B.method)
  cases Option.some.inj (h2.symm.trans (Stand.of_body B).code)
  rw [← h6, table_eq]
end Bodies
end VXA
/-! ===== END ===== -/
/-! ===== BEGIN a static call of a method with an exception table ===== -/
section VXS
variable {p : Program} {l : Launch} {e : Env} {R : Room} {s : State} {m : MethodId} {args : Array Value} {below : List Frame} {meth : Method} {c : Code} {T : State} {H : Heap} {locs : List Loc} {cells slots : Nat}
abbrev vx_CSW (R : Room) (s : State) (args : Array Value) (own : String) (index : Nat) (y : MethodName) (bytes : ByteArray) (maxL : Nat) (ret : Option FieldType) (hh : List (Nat × Nat × Nat × Nat)) (ws : List Cond) (rm : Room) (mc ms n : Nat) : Prop :=
  (rm.cells = mc ∧ rm.slots = ms ∧ rm.frames + 1 ≤ R.frames ∧ 8 + (maxL + 11) + rm.locals ≤ R.locals ∧ (∀ w ∈ ws, ∀ (a' : Array Value) (U : State), s.WarmedH U.vm → w.before a' U = true) ∧ Cond.codeWith y bytes maxL ret hh ∈ ws) ∧
  (Cond.codeWith y bytes maxL ret hh).before args s = true ∧ (Cond.initialized y.cls).before args s = true ∧ (y.cls ≠ "java/lang/invoke/MethodHandle" ∧ y.cls ≠ "java/lang/invoke/VarHandle") ∧
  (∀ sig, parseMethodDescriptor y.desc = some sig → n = sig.parameters.length) ∧ (Cond.methodLink own index y).before args s = true ∧ (Cond.static y).before args s = true
theorem vx_cwSW {own : String} {index maxL mc ms : Nat} {y : MethodName} {bytes : ByteArray} {ret : Option FieldType} {hh : List (Nat × Nat × Nat × Nat)} {Ts ws ws' : List Cond} {rm : Room} (n : Nat) (ht : ∀ w ∈ Ts, w.before args s = true) (hT : GoodIn Ts (va_wsS own index y ws)) (hw : ws = Cond.codeWith y bytes maxL ret hh :: ws') (hrc : rm.cells = mc) (hrs : rm.slots = ms)
    (hd : y.cls ≠ "java/lang/invoke/MethodHandle" ∧ y.cls ≠ "java/lang/invoke/VarHandle" ∧ (parseMethodDescriptor y.desc).map (fun d => d.parameters.length) = some n) (hR : rm.frames + 1 ≤ R.frames ∧ 8 + (maxL + 11) + rm.locals ≤ R.locals) :
    vx_CSW R s args own index y bytes maxL ret hh ws rm mc ms n := by
  have ok : ∀ w ∈ va_wsS own index y ws, w.before args s = true := fun w h => ht w (hT w h).1
  have hG : GoodIn Ts ws := fun w h => hT w (by unfold va_wsS; exact List.mem_append_right _ h)
  have hc : Cond.codeWith y bytes maxL ret hh ∈ ws := by rw [hw]; exact List.mem_cons_self
  refine ⟨⟨hrc, hrs, hR.1, hR.2, pay_in ht hG, hc⟩, ht _ (hG _ hc).1, ok _ (by simp [va_wsS]), ⟨hd.1, hd.2.1⟩, fun sig h => ?_, ok _ (by simp [va_wsS]), ok _ (by simp [va_wsS])⟩
  have h2 := hd.2.2
  rw [h] at h2
  exact (Option.some.inj h2).symm
theorem vx_callSW (X : Stand p l e R s m args below meth c T locs cells slots) (hexec : p.tables.exec = Jvm.exec) {own : String} {index : Nat} {y : MethodName} {bytes : ByteArray} {maxL : Nat} {ret : Option FieldType} {hh : List (Nat × Nat × Nat × Nat)}
    (hown : s.vm.findClass own = some m.cls) (hlink : (Cond.methodLink own index y).before args s = true) (hstat : (Cond.static y).before args s = true) (hinit : (Cond.initialized y.cls).before args s = true)
    (hcode : (Cond.codeWith y bytes maxL ret hh).before args s = true) (hy : y.cls ≠ "java/lang/invoke/MethodHandle" ∧ y.cls ≠ "java/lang/invoke/VarHandle")
    {W9 : Nat} {Pre : Pt → Array Value → Prop} {Post : Pt → Array Value → Option Value → Pt → Prop} (hK : Back l R p e below s args y 3 W9 Pre Post)
    {g : JFrame} (hg : g.method = m) (hsize : g.locals.size = c.maxLocals) {argsL rest : List Value} (hlen : ∀ sig, parseMethodDescriptor y.desc = some sig → argsL.length = sig.parameters.length)
    (hstack : g.stack = argsL.reverse ++ rest) (hW : 2 * g.monitorRoom + (rest.map fun v => v.category).sum ≤ W9) (hdg : decode c.code g.pc = .ok (.invokestatic index, 3))
    (hpre : ∀ vm₁, s.WarmedH vm₁ → Pre ⟨T.setVm vm₁, locs, cells, slots⟩ argsL.toArray) :
    ∃ (v : Option Value) (vm₁ : Vm) (B : Pt), s.WarmedH vm₁ ∧ Stand p l e R s m args below meth c B.U B.locs B.cells B.slots ∧ Post ⟨T.setVm vm₁, locs, cells, slots⟩ argsL.toArray v B ∧
      ∀ target, Steps p.tables e below (B.U.setTop { g with pc := g.pc + 3, stack := v.toList ++ rest }) target → Steps p.tables e below (T.setTop g) target := by
  obtain ⟨mk, methM, cM, hnamed, hmethM, -, -, -, -, -, -, hsigM⟩ := Cond.codeWith_spec hcode
  have hstatic : methM.isStatic = true := Cond.static_spec hnamed hmethM hstat
  obtain ⟨kP, hkP, -⟩ := className_of_methodNamed hnamed
  have hinitP : kP.init = .initialized := Cond.initialized_spec (findClass_of_methodNamed hnamed) hkP hinit
  obtain ⟨vm₁, X₁, hstep₁⟩ := X.invokestatic hexec hown hlink hnamed hmethM hstatic hkP hinitP hy (g := g) hg (argsL := argsL) (rest := rest) (hlen _ hsigM) hstack hdg
  obtain ⟨v, B, X', hpost, hsteps⟩ := hK m meth c ⟨T.setVm vm₁, locs, cells, slots⟩ { g with stack := rest } (.invokestatic index) mk argsL.toArray X₁ hg hsize hdg hW (X₁.named hnamed) (hpre vm₁ X₁.warmed)
  exact ⟨v, vm₁, B, X₁.warmed, X', hpost, fun target h => hstep₁ _ fun acts => by rw [doInvoke_state]; exact hsteps.trans h⟩
theorem vx_runSW {y : MethodName} {bytes cc : ByteArray} {maxL nL mc ms n index : Nat} {ret : Option FieldType} {hh : List (Nat × Nat × Nat × Nat)} {ws : List Cond} {rm : Room} {Pc : Array Value → State → Prop} {Qc : Array Value → State → Outcome → State → Prop} {free : Addr → Prop} {Ts : List Cond} {own : String} {As rest : List Value} {g : JFrame}
    (S : CallFix p m c cc nL s args Ts own) (hM : Met l y ws rm Pc Qc mc ms free) (cw : vx_CSW R s args own index y bytes maxL ret hh ws rm mc ms n) (hp : PreS s H Pc As)
    (hg : g.method = m) (hn : As.length = n) (hsize : g.locals.size = nL) (hstack : g.stack = As.reverse ++ rest) (hW : 2 * g.monitorRoom + (rest.map fun v => v.category).sum ≤ 8) (hdg : decode cc g.pc = .ok (.invokestatic index, 3)) (hf : cells + mc ≤ R.cells ∧ slots + ms ≤ R.slots) :
    va_Run p l e R s m args below meth c H locs cells slots mc ms g rest (Qc As.toArray) (free) := by
  obtain ⟨⟨hrc, hrs, hfr, hlo, hws, hcw⟩, hcode, hini, hy, hlen, hl, hstt⟩ := cw
  have hK : Back l R p e below s args y 3 8 (PreOf R mc ms Pc) (PostOf Qc mc ms free) := va_backW (hh := hh) (bytes := bytes) (maxL := maxL) (ret := ret) hM hp.1 hrc hrs hfr hlo hws hcw (fun a' U hW => word_at hW (Or.inl (by first | rfl | simp [Cond.onTables, Cond.keeps, Cond.steady])) hini)
  obtain ⟨hx, hb, hml, ho, -⟩ := S
  intro T hT X
  obtain ⟨v, vm₁, ⟨U', l2, c2, s2⟩, hW₁, X', ⟨g', mk, t, L, e1, e2, hq, h1, hL, h2, h3⟩, st⟩ := vx_callSW X hx (hh := hh) (bytes := bytes) (maxL := maxL) (ret := ret) ho hl hstt hini hcode hy hK hg (hsize.trans hml.symm) (argsL := As) (rest := rest) (fun sig h => hn.trans (hlen sig h)) hstack hW (by rw [hb]; exact hdg)
    (fun vm₁ hW₁ => ⟨hf.1, hf.2, hp.2 (T.setVm vm₁) hT hW₁⟩)
  dsimp only [Pt.U, Pt.locs, Pt.cells, Pt.slots] at X' e1 e2 h1 h2 h3 st
  subst h1; subst h2; subst h3
  exact ⟨v, (T.setVm vm₁).calling g' mk As.toArray, t, U', L, hT, X', hL, e1, e2, hq, st⟩
/-- not caught here, past rows that name other classes: it goes on to the caller -/
theorem vx_outP {p : Program} {l : Launch} {e : Env} {R : Room} {s : State} {m : MethodId} {args : Array Value} {below : List Frame} {meth : Method} {c : Code} {H : Heap} {locs : List Loc} {cells slots : Nat} {free : Addr → Prop} {ls : Array Slot} {rest : List Value} {Qc : Array Value → State → Outcome → State → Prop} {XC : String → State → State → Prop}
    {pc : Nat} {own E : String} {ce : Cell} {q : Addr} {mc ms : Nat} (hown : s.vm.findClass own = some m.cls) (hlocks : meth.locks = false)
    (hpass : ∀ z ∈ c.exceptionTable.toList, covers z pc = false ∨ (z.catchType ≠ 0 ∧ ∃ nm : String, (Cond.classLink own z.catchType nm).before args s = true ∧ va_Nc E nm s)) (hcell : H[q]? = some ce) (hv : ce.vm = .none) (hcl : s.vm.findClass E = some ce.cls)
    (hx : ∀ t : State, t.heap = H → s.vm.Alike t.vm → XC E s t) (hf : ∀ z ∈ locs, free z.base) (hc : cells ≤ mc) (hs : slots ≤ ms) :
    vx_W p l e R s m args below meth c H locs cells slots (vx_MQ below Qc XC args s mc ms free) (F0 m pc ls rest) q := by
  intro T hT X
  have hpl : e.platform.magicAccessors = ({} : Platform).magicAccessors := by rw [X.admits.platform]
  obtain ⟨vm', hW', X', st⟩ := X.outThrough hlocks q (g := F0 m pc ls rest) rfl rfl rfl (cell := ce) (by rw [hT]; exact hcell) (by rw [hv]; rfl)
    (by obtain ⟨k9, h9, -⟩ := Vm.findClass_spec hcl; exact ⟨k9, h9⟩) (fun z hz => by
      rcases hpass z hz with h | ⟨hz0, nm, hl1, hn1⟩
      · exact Or.inl h
      · obtain ⟨c6, hc6, hcl6⟩ := Cond.classLink_spec hown hl1 e.platform hpl
        obtain ⟨a8, b8, h1, h2, h3⟩ := hn1
        cases Option.some.inj (h1.symm.trans hcl)
        cases Option.some.inj (h2.symm.trans hc6)
        exact Or.inr ⟨hz0, _, hcl6, h3⟩)
  obtain ⟨g₀, hfr⟩ := X'.frames_eq
  have hcell9 : ((T.setVm vm').setFrames (.throwing q :: below)).heap[q]? = some ce := by
    show T.heap[q]? = some ce
    rw [hT]; exact hcell
  have hend : Ended ((T.setVm vm').setFrames (.throwing q :: below)) below (.threw q) := State.frames_setFrames _ (State.cur_lt_of_frames hfr)
  refine ⟨(T.setVm vm').setFrames (.throwing q :: below), ?_, .threw q, X'.here.running, hend, Or.inr ⟨q, rfl, E, ce, locs, hx _ hT (X'.ends _).1.alike, hcell9, hv, hcl, (X'.ends _).1, (X'.ends _).2.mono hc hs, hf⟩⟩
  rw [X.pushThrowing_eq]
  exact st
/-- a thing of a world lies in the heap -/
theorem vx_lt {D : va_G} {cl : List vw_C} {ws : va_W} {H1 : Heap} (h : va_P D cl ws H1) {k : Nat} {q : Nat × va_E} (hk : ws[k]? = some q) : q.1 < H1.size := (h k q hk).lt
end VXS
/-! ===== END ===== -/
/-! ===== BEGIN methods with a table of their own: called by a name, returning or throwing ===== -/
section VXH
/-! vx_backW, vx_callVX, vx_callSX, vx_callVW, vx_runVW, vx_runVX, vx_runSX, vx_ofWH follow the same proofs as their sisters above (Free/Laws.lean, Shelf42/LK1.lean); vx_outP calls Shelf42/NT130.lean (outThrough). -/
section
variable {l : Launch} {R : Room} {p : Program} {e : Env} {below : List Frame} {s : State} {sargs : Array Value} {y : MethodName} {len W9 : Nat}
theorem vx_backW {ws : List Cond} {rm : Room} {Pc : Array Value → State → Prop} {Qc : Array Value → State → Outcome → State → Prop} {XC : String → State → State → Prop} {mc ms : Nat} {free : Addr → Prop} {bytes : ByteArray} {maxL : Nat} {ret : Option FieldType} {hh : List (Nat × Nat × Nat × Nat)}
    (hM : vx_Met l y ws rm Pc Qc XC mc ms free) (hblind : FrameBlind Pc) (hrc : rm.cells = mc) (hrs : rm.slots = ms)
    (hframes : rm.frames + 1 ≤ R.frames) (hlocals : W9 + (maxL + 11) + rm.locals ≤ R.locals)
    (hws : ∀ w ∈ ws, ∀ a' U, s.WarmedH U.vm → w.before a' U = true) (hcode : Cond.codeWith y bytes maxL ret hh ∈ ws) (hinit : ∀ a' U, s.WarmedH U.vm → (Cond.initialized y.cls).before a' U = true) :
    vx_Back l R p e below s sargs y len W9 (PreOf R mc ms Pc) (PostOf Qc mc ms free) (vx_Post XC mc ms free) := by
  intro m meth c A g ig mk a X hg hsize hdg hW hn hp
  have h1 : (headSpec ws rm).pre.before a A.U = true := atoms_intro fun w hw => hws w hw _ _ X.warmed
  have h2 : (Cond.codeWith y bytes maxL ret hh).before a A.U = true := hws _ hcode _ _ X.warmed
  have h3 : (Cond.initialized y.cls).before a A.U = true := hinit _ _ X.warmed
  have h4 : A.cells + (headSpec ws rm).room.cells ≤ R.cells := by rw [show (headSpec ws rm).room.cells = mc from hrc]; exact hp.1
  have h5 : A.slots + (headSpec ws rm).room.slots ≤ R.slots := by rw [show (headSpec ws rm).room.slots = ms from hrs]; exact hp.2.1
  have hPc : Pc a (A.U.calling g mk a) := hblind _ _ _ _ hp.2.2
  obtain ⟨U, Ls, c0, s0⟩ := A
  dsimp only [Pt.U, Pt.locs, Pt.cells, Pt.slots] at h1 h2 h3 h4 h5 X hn hPc ⊢
  obtain ⟨m9, methY, cY, hn9, hmY, hcY, -, hlY, -⟩ := Cond.codeWith_spec h2
  cases Option.some.inj (hn9.symm.trans hn)
  obtain ⟨kY, hkY, -⟩ := className_of_methodNamed hn
  have hinitY : kY.init = .initialized := Cond.initialized_spec (findClass_of_methodNamed hn) hkY h3
  have h : At U g.method c below := by rw [hg]; exact X.here
  have hlocals9 : W9 + (maxL + 11) + (headSpec ws rm).room.locals ≤ R.locals := hlocals
  have happ : (headSpec ws rm).appliesLoose y e.platform (U.calling g mk a) = true :=
    Spec.appliesLoose_calling (g := g) h hdg hn hkY hinitY
      (X.room_calling (g := g) (R' := (headSpec ws rm).room) hsize hmY hcY hframes (by rw [hlY]; omega) h4 h5) h1
  obtain ⟨mid, hmid⟩ := h.above
  have hfr : (U.setTop g).frames = (.java g :: mid) ++ below := by rw [State.frames_setTop' g h.top, hmid]; rfl
  obtain ⟨o, s₂, hsteps, -, hend, hq⟩ := Steps.callFree hM p X.admits X.cas X.clock (acts := []) hfr happ hPc trivial
  have hq' : vx_Q Qc XC mc ms free a (U.calling g mk a) o s₂ := hq
  rw [State.frames_setTop' g h.top] at hend
  obtain ⟨g₀, hg0⟩ := Option.isSome_iff_exists.mp h.top
  obtain ⟨r, hr⟩ := State.topJava?_eq_some.mp hg0
  have hr' : (({ U with heap := s₂.heap, slotsUsed := s₂.slotsUsed } : State).setVm s₂.vm).frames = .java g₀ :: r := hr
  rcases hq' with ⟨hqc, L, hfe, hL⟩ | ⟨q, rfl, E, ce, L, hx, hce, hcv, hcl, hW₂, hsm, hL⟩
  · obtain ⟨⟨v, rfl⟩, hW₂, e2, q2, q3, q4, q5, q6⟩ := id hfe
    have e3 : s₂ = ({ (U.calling g mk a).setFrames s₂.frames with heap := s₂.heap, slotsUsed := s₂.slotsUsed } : State).setVm s₂.vm := by
      have : s₂ = ({ s₂ with vm := (U.calling g mk a).vm } : State).setVm s₂.vm := rfl
      rw [e2] at this
      exact this
    obtain ⟨c₂, i₂, len₂, hc₂, hd₂, hf₂⟩ := hend
    have hW' : U.WarmedH s₂.vm := hW₂
    have hcc : c₂ = c := by
      have h1 : s₂.code? g.method = U.code? g.method := by
        rw [State.code?_eq, State.code?_eq, hW'.alike.method?]
      exact Option.some.inj (hc₂.symm.trans (h1.trans h.code))
    subst hcc
    have hlen : len₂ = len := by rw [hdg] at hd₂; cases hd₂; rfl
    subst hlen
    have hs₂ : s₂ = (({ U with heap := s₂.heap, slotsUsed := s₂.slotsUsed } : State).setVm s₂.vm).setTop { g with pc := g.pc + len₂, stack := v.toList ++ g.stack } := by
      refine e3.trans ?_
      rw [hf₂, State.calling_eq h.top, State.setFrames_setFrames, State.setTop_of_frames _ hr', hr]
      rfl
    have hsame : U.sameButNew ({ U with heap := s₂.heap, slotsUsed := s₂.slotsUsed } : State) L mc ms := by
      refine ⟨?_, q2, q3, q4, q5, q6⟩
      obtain ⟨t, ht, -⟩ := State.frames_cons hr
      show ({ U with heap := s₂.heap, slotsUsed := s₂.slotsUsed } : State) = { U.setFrames U.frames with heap := s₂.heap, slotsUsed := s₂.slotsUsed }
      rw [State.setFrames_self ht]
    subst hg
    refine Or.inl ⟨v, ⟨(({ U with heap := s₂.heap, slotsUsed := s₂.slotsUsed } : State).setVm s₂.vm), Ls ++ L, c0 + mc, s0 + ms⟩,
      ⟨X.admits, X.cas, X.clock, X.frames, X.room, X.hears, X.method, X.code, (X.here.setHeapUsed s₂.heap s₂.slotsUsed).setVm hW'.alike, X.tail, State.WarmedH.trans X.warmed hW', X.limits, X.bytes, X.same.trans (hsame.setVm s.vm)⟩,
      ⟨g, mk, s₂, L, rfl, rfl, hqc, rfl, hL, rfl, rfl⟩, ?_⟩
    show Steps p.tables e below _ ((({ U with heap := s₂.heap, slotsUsed := s₂.slotsUsed } : State).setVm s₂.vm).setTop { g with pc := g.pc + len₂, stack := v.toList ++ g.stack })
    rw [← hs₂]
    exact hsteps
  · obtain ⟨e2, q2, q3, q4, q5, q6⟩ := id hsm
    have e3 : s₂ = ({ (U.calling g mk a).setFrames s₂.frames with heap := s₂.heap, slotsUsed := s₂.slotsUsed } : State).setVm s₂.vm := by
      have : s₂ = ({ s₂ with vm := (U.calling g mk a).vm } : State).setVm s₂.vm := rfl
      rw [e2] at this
      exact this
    have hf₂ : s₂.frames = .throwing q :: .java g :: U.frames.tail := hend
    have hW' : U.WarmedH s₂.vm := hW₂
    have hs₂ : s₂ = ((({ U with heap := s₂.heap, slotsUsed := s₂.slotsUsed } : State).setVm s₂.vm).setTop g).pushFrame (.throwing q) := by
      refine e3.trans ?_
      rw [hf₂, State.calling_eq h.top, State.setFrames_setFrames, State.pushFrame, State.frames_setTop _ hr', State.setTop_of_frames _ hr', State.setFrames_setFrames, hr]
      rfl
    have hsame : U.sameButNew ({ U with heap := s₂.heap, slotsUsed := s₂.slotsUsed } : State) L mc ms := by
      refine ⟨?_, q2, q3, q4, q5, q6⟩
      obtain ⟨t, ht, -⟩ := State.frames_cons hr
      show ({ U with heap := s₂.heap, slotsUsed := s₂.slotsUsed } : State) = { U.setFrames U.frames with heap := s₂.heap, slotsUsed := s₂.slotsUsed }
      rw [State.setFrames_self ht]
    subst hg
    refine Or.inr ⟨q, ⟨(({ U with heap := s₂.heap, slotsUsed := s₂.slotsUsed } : State).setVm s₂.vm), Ls ++ L, c0 + mc, s0 + ms⟩,
      ⟨X.admits, X.cas, X.clock, X.frames, X.room, X.hears, X.method, X.code, (X.here.setHeapUsed s₂.heap s₂.slotsUsed).setVm hW'.alike, X.tail, State.WarmedH.trans X.warmed hW', X.limits, X.bytes, X.same.trans (hsame.setVm s.vm)⟩,
      ⟨g, mk, s₂, L, E, ce, rfl, rfl, hx, hce, hcv, hcl, rfl, hL, rfl, rfl⟩, ?_⟩
    show Steps p.tables e below _ (((({ U with heap := s₂.heap, slotsUsed := s₂.slotsUsed } : State).setVm s₂.vm).setTop g).pushFrame (.throwing q))
    rw [← hs₂]
    exact hsteps
end
variable {p : Program} {l : Launch} {e : Env} {R : Room} {s : State} {m : MethodId} {args : Array Value} {below : List Frame} {meth : Method} {c : Code} {T : State} {H : Heap} {locs : List Loc} {cells slots : Nat}
theorem vx_callVX (X : Stand p l e R s m args below meth c T locs cells slots) (hexec : p.tables.exec = Jvm.exec) {own C : String} {index : Nat} {y : MethodName} {bytes : ByteArray} {maxL : Nat} {ret : Option FieldType} {hh : List (Nat × Nat × Nat × Nat)}
    (hown : s.vm.findClass own = some m.cls) (hlink : (Cond.methodLink own index y).before args s = true) (hinst : (Cond.instanceMethod y).before args s = true) (hsel : (Cond.selects C y y).before args s = true)
    (hcode : (Cond.codeWith y bytes maxL ret hh).before args s = true) (hy : y.cls ≠ "java/lang/invoke/MethodHandle" ∧ y.cls ≠ "java/lang/invoke/VarHandle")
    {W9 : Nat} {Pre : Pt → Array Value → Prop} {Post : Pt → Array Value → Option Value → Pt → Prop} {PostX : Pt → Array Value → Addr → Pt → Prop} (hK : vx_Back l R p e below s args y 3 W9 Pre Post PostX)
    {b : Addr} {cellB : Cell} (hcell : T.heap[b]? = some cellB) (hobj : cellB.vm.isStatics = false) (hcls : s.vm.findClass C = some cellB.cls)
    {g : JFrame} (hg : g.method = m) (hsize : g.locals.size = c.maxLocals) {argsL rest : List Value} (hlen : ∀ sig, parseMethodDescriptor y.desc = some sig → argsL.length = sig.parameters.length)
    (hstack : g.stack = argsL.reverse ++ .ref b :: rest) (hW : 2 * g.monitorRoom + (rest.map fun v => v.category).sum ≤ W9) (hdg : decode c.code g.pc = .ok (.invokevirtual index, 3))
    (hpre : ∀ vm₁, s.WarmedH vm₁ → Pre ⟨T.setVm vm₁, locs, cells, slots⟩ (Value.ref b :: argsL).toArray) :
    (∃ (v : Option Value) (vm₁ : Vm) (B : Pt), s.WarmedH vm₁ ∧ Stand p l e R s m args below meth c B.U B.locs B.cells B.slots ∧ Post ⟨T.setVm vm₁, locs, cells, slots⟩ (Value.ref b :: argsL).toArray v B ∧
      ∀ target, Steps p.tables e below (B.U.setTop { g with pc := g.pc + 3, stack := v.toList ++ rest }) target → Steps p.tables e below (T.setTop g) target) ∨
    (∃ (q : Addr) (vm₁ : Vm) (B : Pt), s.WarmedH vm₁ ∧ Stand p l e R s m args below meth c B.U B.locs B.cells B.slots ∧ PostX ⟨T.setVm vm₁, locs, cells, slots⟩ (Value.ref b :: argsL).toArray q B ∧
      Steps p.tables e below (T.setTop g) ((B.U.setTop { g with stack := rest }).pushFrame (.throwing q))) := by
  obtain ⟨mk, methM, hnamed, hmethM, hstM, habM⟩ := Cond.instanceMethod_spec hinst
  obtain ⟨m8, methM', cM, hn8, hmethM', -, -, -, -, -, -, hsigM⟩ := Cond.codeWith_spec hcode
  cases Option.some.inj (hn8.symm.trans hnamed)
  cases hmethM.symm.trans hmethM'
  obtain ⟨c2, r2, m2, q1, q2, q3, q4, kP, hkP, hkPi⟩ := Cond.selects_spec hsel
  cases hcls.symm.trans q1
  cases (State.methodFound?_of_named hnamed hy).symm.trans q2
  cases hnamed.symm.trans q3
  have hselP : selectMethod e.platform s.vm cellB.cls mk = .method mk := by rw [Launch.admits_selectMethod X.admits]; exact q4
  obtain ⟨vm₁, X₁, hstep₁⟩ := X.invokevirtual hexec hown hlink hnamed hmethM hstM hkP hkPi hy (a := b) (cell := cellB) hcell
    (fun z h => by rw [h] at hobj; cases hobj) hselP hmethM habM hkP hkPi (g := g) hg (argsL := argsL) (rest := rest) (hlen _ hsigM) hstack hdg
  rcases hK m meth c ⟨T.setVm vm₁, locs, cells, slots⟩ { g with stack := rest } (.invokevirtual index) mk (Value.ref b :: argsL).toArray X₁ hg hsize hdg hW (X₁.named hnamed) (hpre vm₁ X₁.warmed) with ⟨v, B, X', hpost, hsteps⟩ | ⟨q, B, X', hpost, hsteps⟩
  · exact Or.inl ⟨v, vm₁, B, X₁.warmed, X', hpost, fun target h => hstep₁ _ fun acts => by rw [doInvoke_state]; exact hsteps.trans h⟩
  · exact Or.inr ⟨q, vm₁, B, X₁.warmed, X', hpost, hstep₁ _ fun acts => by rw [doInvoke_state]; exact hsteps⟩
theorem vx_callSX (X : Stand p l e R s m args below meth c T locs cells slots) (hexec : p.tables.exec = Jvm.exec) {own : String} {index : Nat} {y : MethodName} {bytes : ByteArray} {maxL : Nat} {ret : Option FieldType} {hh : List (Nat × Nat × Nat × Nat)}
    (hown : s.vm.findClass own = some m.cls) (hlink : (Cond.methodLink own index y).before args s = true) (hstat : (Cond.static y).before args s = true) (hinit : (Cond.initialized y.cls).before args s = true)
    (hcode : (Cond.codeWith y bytes maxL ret hh).before args s = true) (hy : y.cls ≠ "java/lang/invoke/MethodHandle" ∧ y.cls ≠ "java/lang/invoke/VarHandle")
    {W9 : Nat} {Pre : Pt → Array Value → Prop} {Post : Pt → Array Value → Option Value → Pt → Prop} {PostX : Pt → Array Value → Addr → Pt → Prop} (hK : vx_Back l R p e below s args y 3 W9 Pre Post PostX)
    {g : JFrame} (hg : g.method = m) (hsize : g.locals.size = c.maxLocals) {argsL rest : List Value} (hlen : ∀ sig, parseMethodDescriptor y.desc = some sig → argsL.length = sig.parameters.length)
    (hstack : g.stack = argsL.reverse ++ rest) (hW : 2 * g.monitorRoom + (rest.map fun v => v.category).sum ≤ W9) (hdg : decode c.code g.pc = .ok (.invokestatic index, 3))
    (hpre : ∀ vm₁, s.WarmedH vm₁ → Pre ⟨T.setVm vm₁, locs, cells, slots⟩ argsL.toArray) :
    (∃ (v : Option Value) (vm₁ : Vm) (B : Pt), s.WarmedH vm₁ ∧ Stand p l e R s m args below meth c B.U B.locs B.cells B.slots ∧ Post ⟨T.setVm vm₁, locs, cells, slots⟩ argsL.toArray v B ∧
      ∀ target, Steps p.tables e below (B.U.setTop { g with pc := g.pc + 3, stack := v.toList ++ rest }) target → Steps p.tables e below (T.setTop g) target) ∨
    (∃ (q : Addr) (vm₁ : Vm) (B : Pt), s.WarmedH vm₁ ∧ Stand p l e R s m args below meth c B.U B.locs B.cells B.slots ∧ PostX ⟨T.setVm vm₁, locs, cells, slots⟩ argsL.toArray q B ∧
      Steps p.tables e below (T.setTop g) ((B.U.setTop { g with stack := rest }).pushFrame (.throwing q))) := by
  obtain ⟨mk, methM, cM, hnamed, hmethM, -, -, -, -, -, -, hsigM⟩ := Cond.codeWith_spec hcode
  have hstatic : methM.isStatic = true := Cond.static_spec hnamed hmethM hstat
  obtain ⟨kP, hkP, -⟩ := className_of_methodNamed hnamed
  have hinitP : kP.init = .initialized := Cond.initialized_spec (findClass_of_methodNamed hnamed) hkP hinit
  obtain ⟨vm₁, X₁, hstep₁⟩ := X.invokestatic hexec hown hlink hnamed hmethM hstatic hkP hinitP hy (g := g) hg (argsL := argsL) (rest := rest) (hlen _ hsigM) hstack hdg
  rcases hK m meth c ⟨T.setVm vm₁, locs, cells, slots⟩ { g with stack := rest } (.invokestatic index) mk argsL.toArray X₁ hg hsize hdg hW (X₁.named hnamed) (hpre vm₁ X₁.warmed) with ⟨v, B, X', hpost, hsteps⟩ | ⟨q, B, X', hpost, hsteps⟩
  · exact Or.inl ⟨v, vm₁, B, X₁.warmed, X', hpost, fun target h => hstep₁ _ fun acts => by rw [doInvoke_state]; exact hsteps.trans h⟩
  · exact Or.inr ⟨q, vm₁, B, X₁.warmed, X', hpost, hstep₁ _ fun acts => by rw [doInvoke_state]; exact hsteps⟩
theorem vx_callVW (X : Stand p l e R s m args below meth c T locs cells slots) (hexec : p.tables.exec = Jvm.exec) {own C : String} {index : Nat} {y : MethodName} {bytes : ByteArray} {maxL : Nat} {ret : Option FieldType} {hh : List (Nat × Nat × Nat × Nat)}
    (hown : s.vm.findClass own = some m.cls) (hlink : (Cond.methodLink own index y).before args s = true) (hinst : (Cond.instanceMethod y).before args s = true) (hsel : (Cond.selects C y y).before args s = true)
    (hcode : (Cond.codeWith y bytes maxL ret hh).before args s = true) (hy : y.cls ≠ "java/lang/invoke/MethodHandle" ∧ y.cls ≠ "java/lang/invoke/VarHandle")
    {W9 : Nat} {Pre : Pt → Array Value → Prop} {Post : Pt → Array Value → Option Value → Pt → Prop} (hK : Back l R p e below s args y 3 W9 Pre Post)
    {b : Addr} {cellB : Cell} (hcell : T.heap[b]? = some cellB) (hobj : cellB.vm.isStatics = false) (hcls : s.vm.findClass C = some cellB.cls)
    {g : JFrame} (hg : g.method = m) (hsize : g.locals.size = c.maxLocals) {argsL rest : List Value} (hlen : ∀ sig, parseMethodDescriptor y.desc = some sig → argsL.length = sig.parameters.length)
    (hstack : g.stack = argsL.reverse ++ .ref b :: rest) (hW : 2 * g.monitorRoom + (rest.map fun v => v.category).sum ≤ W9) (hdg : decode c.code g.pc = .ok (.invokevirtual index, 3))
    (hpre : ∀ vm₁, s.WarmedH vm₁ → Pre ⟨T.setVm vm₁, locs, cells, slots⟩ (Value.ref b :: argsL).toArray) :
    ∃ (v : Option Value) (vm₁ : Vm) (B : Pt), s.WarmedH vm₁ ∧ Stand p l e R s m args below meth c B.U B.locs B.cells B.slots ∧ Post ⟨T.setVm vm₁, locs, cells, slots⟩ (Value.ref b :: argsL).toArray v B ∧
      ∀ target, Steps p.tables e below (B.U.setTop { g with pc := g.pc + 3, stack := v.toList ++ rest }) target → Steps p.tables e below (T.setTop g) target := by
  obtain ⟨mk, methM, hnamed, hmethM, hstM, habM⟩ := Cond.instanceMethod_spec hinst
  obtain ⟨m8, methM', cM, hn8, hmethM', -, -, -, -, -, -, hsigM⟩ := Cond.codeWith_spec hcode
  cases Option.some.inj (hn8.symm.trans hnamed)
  cases hmethM.symm.trans hmethM'
  obtain ⟨c2, r2, m2, q1, q2, q3, q4, kP, hkP, hkPi⟩ := Cond.selects_spec hsel
  cases hcls.symm.trans q1
  cases (State.methodFound?_of_named hnamed hy).symm.trans q2
  cases hnamed.symm.trans q3
  have hselP : selectMethod e.platform s.vm cellB.cls mk = .method mk := by rw [Launch.admits_selectMethod X.admits]; exact q4
  obtain ⟨vm₁, X₁, hstep₁⟩ := X.invokevirtual hexec hown hlink hnamed hmethM hstM hkP hkPi hy (a := b) (cell := cellB) hcell
    (fun z h => by rw [h] at hobj; cases hobj) hselP hmethM habM hkP hkPi (g := g) hg (argsL := argsL) (rest := rest) (hlen _ hsigM) hstack hdg
  obtain ⟨v, B, X', hpost, hsteps⟩ := hK m meth c ⟨T.setVm vm₁, locs, cells, slots⟩ { g with stack := rest } (.invokevirtual index) mk (Value.ref b :: argsL).toArray X₁ hg hsize hdg hW (X₁.named hnamed) (hpre vm₁ X₁.warmed)
  exact ⟨v, vm₁, B, X₁.warmed, X', hpost, fun target h => hstep₁ _ fun acts => by rw [doInvoke_state]; exact hsteps.trans h⟩
abbrev vx_CVW (R : Room) (s : State) (args : Array Value) (own C : String) (index : Nat) (y : MethodName) (bytes : ByteArray) (maxL : Nat) (ret : Option FieldType) (hh : List (Nat × Nat × Nat × Nat)) (ws : List Cond) (rm : Room) (mc ms n : Nat) : Prop :=
  (rm.cells = mc ∧ rm.slots = ms ∧ rm.frames + 1 ≤ R.frames ∧ 8 + (maxL + 11) + rm.locals ≤ R.locals ∧ (∀ w ∈ ws, ∀ (a' : Array Value) (U : State), s.WarmedH U.vm → w.before a' U = true) ∧ Cond.codeWith y bytes maxL ret hh ∈ ws) ∧
  (Cond.codeWith y bytes maxL ret hh).before args s = true ∧ (Cond.initialized y.cls).before args s = true ∧ (y.cls ≠ "java/lang/invoke/MethodHandle" ∧ y.cls ≠ "java/lang/invoke/VarHandle") ∧
  (∀ sig, parseMethodDescriptor y.desc = some sig → n = sig.parameters.length) ∧ (Cond.methodLink own index y).before args s = true ∧ (Cond.instanceMethod y).before args s = true ∧ (Cond.selects C y y).before args s = true
theorem vx_cwVW {own C : String} {index maxL mc ms : Nat} {y : MethodName} {bytes : ByteArray} {ret : Option FieldType} {hh : List (Nat × Nat × Nat × Nat)} {Ts ws ws' : List Cond} {rm : Room} (n : Nat) (ht : ∀ w ∈ Ts, w.before args s = true) (hT : GoodIn Ts (wsV own index C y ws)) (hw : ws = Cond.codeWith y bytes maxL ret hh :: ws') (hrc : rm.cells = mc) (hrs : rm.slots = ms)
    (hd : y.cls = C ∧ y.cls ≠ "java/lang/invoke/MethodHandle" ∧ y.cls ≠ "java/lang/invoke/VarHandle" ∧ (parseMethodDescriptor y.desc).map (fun d => d.parameters.length) = some n) (hR : rm.frames + 1 ≤ R.frames ∧ 8 + (maxL + 11) + rm.locals ≤ R.locals) :
    vx_CVW R s args own C index y bytes maxL ret hh ws rm mc ms n := by
  obtain ⟨hC, hd⟩ := hd
  subst hC
  have ok : ∀ w ∈ wsV own index y.cls y ws, w.before args s = true := fun w h => ht w (hT w h).1
  have hG : GoodIn Ts ws := fun w h => hT w (by unfold wsV; exact List.mem_append_right _ h)
  have hc : Cond.codeWith y bytes maxL ret hh ∈ ws := by rw [hw]; exact List.mem_cons_self
  refine ⟨⟨hrc, hrs, hR.1, hR.2, pay_in ht hG, hc⟩, ht _ (hG _ hc).1, ok _ (by simp [wsV]), ⟨hd.1, hd.2.1⟩, fun sig h => ?_, ok _ (by simp [wsV]), ok _ (by simp [wsV]), ok _ (by simp [wsV])⟩
  have h2 := hd.2.2
  rw [h] at h2
  exact (Option.some.inj h2).symm
theorem vx_runVW {y : MethodName} {bytes cc : ByteArray} {maxL nL mc ms n index : Nat} {ret : Option FieldType} {hh : List (Nat × Nat × Nat × Nat)} {ws : List Cond} {rm : Room} {Pc : Array Value → State → Prop} {Qc : Array Value → State → Outcome → State → Prop} {free : Addr → Prop} {Ts : List Cond} {own C : String} {b : Addr} {As rest : List Value} {g : JFrame}
    (S : CallFix p m c cc nL s args Ts own) (hM : Met l y ws rm Pc Qc mc ms free) (cw : vx_CVW R s args own C index y bytes maxL ret hh ws rm mc ms n) (hp : PreV s H C b Pc As)
    (hg : g.method = m) (hn : As.length = n) (hsize : g.locals.size = nL) (hstack : g.stack = As.reverse ++ .ref b :: rest) (hW : 2 * g.monitorRoom + (rest.map fun v => v.category).sum ≤ 8) (hdg : decode cc g.pc = .ok (.invokevirtual index, 3)) (hf : cells + mc ≤ R.cells ∧ slots + ms ≤ R.slots) :
    va_Run p l e R s m args below meth c H locs cells slots mc ms g rest (Qc (Value.ref b :: As).toArray) free := by
  obtain ⟨⟨hrc, hrs, hfr, hlo, hws, hcw⟩, hcode, hini, hy, hlen, hl, hin, hse⟩ := cw
  have hK : Back l R p e below s args y 3 8 (PreOf R mc ms Pc) (PostOf Qc mc ms free) := va_backW (hh := hh) (bytes := bytes) (maxL := maxL) (ret := ret) hM hp.1 hrc hrs hfr hlo hws hcw (fun a' U hW => word_at hW (Or.inl (by first | rfl | simp [Cond.onTables, Cond.keeps, Cond.steady])) hini)
  obtain ⟨hx, hb, hml, ho, -⟩ := S
  obtain ⟨-, ⟨cellB, hcB, hoB, hclB⟩, hPc⟩ := hp
  intro T hT X
  obtain ⟨v, vm₁, ⟨U', l2, c2, s2⟩, hW₁, X', ⟨g', mk, t, L, e1, e2, hq, h1, hL, h2, h3⟩, st⟩ := vx_callVW X hx (C := C) (hh := hh) (bytes := bytes) (maxL := maxL) (ret := ret) ho hl hin hse hcode hy hK (by rw [hT]; exact hcB) hoB hclB hg (hsize.trans hml.symm) (argsL := As) (rest := rest) (fun sig h => hn.trans (hlen sig h)) hstack hW (by rw [hb]; exact hdg)
    (fun vm₁ hW₁ => ⟨hf.1, hf.2, hPc (T.setVm vm₁) hT hW₁⟩)
  dsimp only [Pt.U, Pt.locs, Pt.cells, Pt.slots] at X' e1 e2 h1 h2 h3 st
  subst h1; subst h2; subst h3
  exact ⟨v, (T.setVm vm₁).calling g' mk (Value.ref b :: As).toArray, t, U', L, hT, X', hL, e1, e2, hq, st⟩
section
variable {y : MethodName} {bytes cc : ByteArray} {maxL nL mc ms n index : Nat} {ret : Option FieldType} {ws : List Cond} {rm : Room} {Pc : Array Value → State → Prop} {Qc : Array Value → State → Outcome → State → Prop} {XC : String → State → State → Prop} {free : Addr → Prop} {Ts : List Cond} {own C : String} {b : Addr} {As rest : List Value} {g : JFrame}
theorem vx_runVX {hh : List (Nat × Nat × Nat × Nat)} (S : CallFix p m c cc nL s args Ts own) (hM : vx_Met l y ws rm Pc Qc XC mc ms free) (cw : vx_CVW R s args own C index y bytes maxL ret hh ws rm mc ms n) (hp : PreV s H C b Pc As)
    (hg : g.method = m) (hn : As.length = n) (hsize : g.locals.size = nL) (hstack : g.stack = As.reverse ++ .ref b :: rest) (hW : 2 * g.monitorRoom + (rest.map fun v => v.category).sum ≤ 8) (hdg : decode cc g.pc = .ok (.invokevirtual index, 3)) (hf : cells + mc ≤ R.cells ∧ slots + ms ≤ R.slots) :
    vx_Run p l e R s m args below meth c H locs cells slots mc ms g rest (Qc (Value.ref b :: As).toArray) XC free := by
  obtain ⟨⟨hrc, hrs, hfr, hlo, hws, hcw⟩, hcode, hini, hy, hlen, hl, hin, hse⟩ := cw
  have hK : vx_Back l R p e below s args y 3 8 (PreOf R mc ms Pc) (PostOf Qc mc ms free) (vx_Post XC mc ms free) := vx_backW (hh := hh) (bytes := bytes) (maxL := maxL) (ret := ret) hM hp.1 hrc hrs hfr hlo hws hcw (fun a' U hW => word_at hW (Or.inl (by first | rfl | simp [Cond.onTables, Cond.keeps, Cond.steady])) hini)
  obtain ⟨hx, hb, hml, ho, -⟩ := S
  obtain ⟨-, ⟨cellB, hcB, hoB, hclB⟩, hPc⟩ := hp
  intro T hT X
  rcases vx_callVX X hx (C := C) (hh := hh) (bytes := bytes) (maxL := maxL) (ret := ret) ho hl hin hse hcode hy hK (by rw [hT]; exact hcB) hoB hclB hg (hsize.trans hml.symm) (argsL := As) (rest := rest) (fun sig h => hn.trans (hlen sig h)) hstack hW (by rw [hb]; exact hdg)
    (fun vm₁ hW₁ => ⟨hf.1, hf.2, hPc (T.setVm vm₁) hT hW₁⟩) with ⟨v, vm₁, ⟨U', l2, c2, s2⟩, hW₁, X', ⟨g', mk, t, L, e1, e2, hq, h1, hL, h2, h3⟩, st⟩ | ⟨q, vm₁, ⟨U', l2, c2, s2⟩, hW₁, X', ⟨g', mk, t, L, E, ce, e1, e2, hq, hce, hcv, hcl, h1, hL, h2, h3⟩, st⟩
  · dsimp only [Pt.U, Pt.locs, Pt.cells, Pt.slots] at X' e1 e2 h1 h2 h3 st
    subst h1; subst h2; subst h3
    exact Or.inl ⟨v, (T.setVm vm₁).calling g' mk (Value.ref b :: As).toArray, t, U', L, hT, X', hL, e1, e2, hq, st⟩
  · dsimp only [Pt.U, Pt.locs, Pt.cells, Pt.slots] at X' e1 e2 h1 h2 h3 st hcl
    subst h1; subst h2; subst h3
    exact Or.inr ⟨q, (T.setVm vm₁).calling g' mk (Value.ref b :: As).toArray, t, U', L, E, ce, hT, X', hL, e1, e2, hq, hce, hcv, vx_cls hW₁ hcl, st⟩
theorem vx_runSX {hh : List (Nat × Nat × Nat × Nat)} (S : CallFix p m c cc nL s args Ts own) (hM : vx_Met l y ws rm Pc Qc XC mc ms free) (cw : vx_CSW R s args own index y bytes maxL ret hh ws rm mc ms n) (hp : PreS s H Pc As)
    (hg : g.method = m) (hn : As.length = n) (hsize : g.locals.size = nL) (hstack : g.stack = As.reverse ++ rest) (hW : 2 * g.monitorRoom + (rest.map fun v => v.category).sum ≤ 8) (hdg : decode cc g.pc = .ok (.invokestatic index, 3)) (hf : cells + mc ≤ R.cells ∧ slots + ms ≤ R.slots) :
    vx_Run p l e R s m args below meth c H locs cells slots mc ms g rest (Qc As.toArray) XC free := by
  obtain ⟨⟨hrc, hrs, hfr, hlo, hws, hcw⟩, hcode, hini, hy, hlen, hl, hstt⟩ := cw
  have hK : vx_Back l R p e below s args y 3 8 (PreOf R mc ms Pc) (PostOf Qc mc ms free) (vx_Post XC mc ms free) := vx_backW (hh := hh) (bytes := bytes) (maxL := maxL) (ret := ret) hM hp.1 hrc hrs hfr hlo hws hcw (fun a' U hW => word_at hW (Or.inl (by first | rfl | simp [Cond.onTables, Cond.keeps, Cond.steady])) hini)
  obtain ⟨hx, hb, hml, ho, -⟩ := S
  intro T hT X
  rcases vx_callSX X hx (hh := hh) (bytes := bytes) (maxL := maxL) (ret := ret) ho hl hstt hini hcode hy hK hg (hsize.trans hml.symm) (argsL := As) (rest := rest) (fun sig h => hn.trans (hlen sig h)) hstack hW (by rw [hb]; exact hdg)
    (fun vm₁ hW₁ => ⟨hf.1, hf.2, hp.2 (T.setVm vm₁) hT hW₁⟩) with ⟨v, vm₁, ⟨U', l2, c2, s2⟩, hW₁, X', ⟨g', mk, t, L, e1, e2, hq, h1, hL, h2, h3⟩, st⟩ | ⟨q, vm₁, ⟨U', l2, c2, s2⟩, hW₁, X', ⟨g', mk, t, L, E, ce, e1, e2, hq, hce, hcv, hcl, h1, hL, h2, h3⟩, st⟩
  · dsimp only [Pt.U, Pt.locs, Pt.cells, Pt.slots] at X' e1 e2 h1 h2 h3 st
    subst h1; subst h2; subst h3
    exact Or.inl ⟨v, (T.setVm vm₁).calling g' mk As.toArray, t, U', L, hT, X', hL, e1, e2, hq, st⟩
  · dsimp only [Pt.U, Pt.locs, Pt.cells, Pt.slots] at X' e1 e2 h1 h2 h3 st hcl
    subst h1; subst h2; subst h3
    exact Or.inr ⟨q, (T.setVm vm₁).calling g' mk As.toArray, t, U', L, E, ce, hT, X', hL, e1, e2, hq, hce, hcv, vx_cls hW₁ hcl, st⟩
end
end VXH
theorem vx_ofWH {l : Launch} {y : MethodName} {ws ws' : List Cond} {rm : Room} {Pc : Array Value → State → Prop} {Qc : Array Value → State → Outcome → State → Prop} {XC : String → State → State → Prop} {mc ms : Nat} {free : Addr → Prop} {cc : ByteArray} {maxL : Nat} {ret : Option FieldType} {hh : List (Nat × Nat × Nat × Nat)}
    (hy : plainName y.cls = true) (hw : ws = Cond.codeWith y cc maxL ret hh :: ws')
    (body : ∀ p e s m args below meth c s₁, BodyLoose p l y (headSpec ws rm) cc maxL ret e s m args below meth c s₁ → c.maxLocals = maxL → Pc args s →
      W p l e (headSpec ws rm).room s m args below meth c s.heap [] 0 0 (vx_MQ below Qc XC args s mc ms free) (entryFrame m args maxL)) : vx_Met l y ws rm Pc Qc XC mc ms free := by
  refine MetFree.of_bodyS (code := cc) (maxLocals := maxL) (ret := ret) hy ?_ ?_
  · intro args s m h hn
    obtain ⟨m9, meth, c, hn9, h1, h2, h3, h4, -, h5, h6, -⟩ := Cond.codeWith_spec (atoms_spec (ws := ws) h _ (by rw [hw]; exact List.mem_cons_self))
    cases hn.symm.trans hn9
    exact ⟨meth, c, h1, h2, h3, h4, h5, h6⟩
  · intro p e s m args below meth c s₁ B hml hP _
    have hh0 : s₁.heap = s.heap := by rw [B.state]; rfl
    obtain ⟨t, a1, o, b1, b2, b3⟩ := body p e s m args below meth c s₁ B hml hP s₁ hh0 (Stand.of_body B)
    exact ⟨t, o, a1, b1, b2, b3⟩
/-! ===== END ===== -/

/-! ===== BEGIN what the machine throws by itself, no traces kept ===== -/
section VXM
set_option maxHeartbeats 1000000 in
/-- the machine throws cls with the message text, no traces kept: from its note over the frame g to 'throwing' over the same frame (follows the proofs of Stand.vmThrowsMessage, Shelf/KitTracedVmS.lean, and Stand.throwsMessageColdBareV, StandMessageColdV.lean, without the step out of the frame) -/
theorem vx_vmAt {p : Program} {l : Launch} {e : Env} {R : Room} {s : State} {m₀ : MethodId} {args : Array Value} {below : List Frame} {meth : Method} {c : Code} {W : State} {locs : List Loc} {cells slots : Nat}
    (X : Stand p l e R s m₀ args below meth c W locs cells slots) (hexec : p.tables.exec = Jvm.exec) (htr : e.platform.stackTraces = false) {cls : String} {names : List String} {text : String}
    (hcls : Bundle.fit cls = true) (hnames : ∀ n ∈ names, Bundle.fit n = true) (hsoe : (cls == "java/lang/StackOverflowError") = false) (hoom : (cls == "java/lang/OutOfMemoryError") = false)
    (h : ∀ a ∈ Bundle.messageArmAtoms cls names, a.before args s = true)
    (hlocs : ∀ x ∈ locs, ∀ cell, s.heap[x.base]? = some cell → cell.vm.isStatics = false)
    (htext : (text == notModelled) = false) (hlimit : ¬ (stringBytes (stringToUtf16 text)).size > e.platform.arrayLengthLimit) (hheap : ¬ (stringBytes (stringToUtf16 text)).size * componentBytes .byte > e.platform.maxHeapBytes)
    {g : JFrame} (hg : g.method = m₀) (hsize : g.locals.size = c.maxLocals)
    (hRframes : names.length + 4 < R.frames) (hRlocals : 2 * g.monitorRoom + (g.stack.map fun v => v.category).sum + 10240 ≤ R.locals) (hshort : 13 * names.length + 55 ≤ 10240)
    (hRcells : cells + 3 ≤ R.cells) (hRslots : slots + ((stringBytes (stringToUtf16 text)).size + 4 + 6) ≤ R.slots) (hlocks : meth.locks = false) :
    ∃ (S : State) (q : Addr) (ce : Cell), (∀ target, Steps p.tables e below ((S.setTop g).pushFrame (.throwing q)) target → Steps p.tables e below ((W.setTop g).pushFrame (.throwNew cls (some text) none)) target) ∧
      Stand p l e R s m₀ args below meth c S locs (cells + 3) (slots + ((stringBytes (stringToUtf16 text)).size + 4 + 6)) ∧ S.heap[q]? = some ce ∧ s.vm.findClass cls = some ce.cls ∧ ce.vm = .none := by
  have howns : e.platform.frameOwnsMonitors = true := by rw [X.admits.platform]
  have hfin : e.platform.finalization = false := by rw [X.admits.platform]
  have hpl : e.platform.magicAccessors = ({} : Platform).magicAccessors := by rw [X.admits.platform]
  have a : ∀ x, x ∈ Bundle.messageArmAtoms cls names → x.holds args s none s [] = true := fun x hx => h x hx
  obtain ⟨T, Z0, L, -, Y⟩ := ThrowableC.of_atoms (args := args) howns hfin hpl (fun x hx => h x (by simp [Bundle.messageArmAtoms, hx]))
  obtain ⟨Z, M, LZ, LM, hnZ⟩ := Init0T.ofS_atoms (args := args) hpl L Y (fun x hx => h x (by simp [Bundle.messageArmAtoms, hx]))
  obtain ⟨P1, Ps, hlen, L1, hL, hP1m, hlink1, hlink⟩ := Bundle.chainS (args := args) hpl hnZ names cls hcls hnames (fun x hx => h x (by simp [Bundle.messageArmAtoms, hx]))
  obtain ⟨Zs, LZs, hn4, hfitv, hfitc⟩ := StringT.of_atoms (args := args) (fun x hx => h x (by simp [Bundle.messageArmAtoms, hx]))
  have hfound : s.vm.findClass cls = some P1.m.cls := findClass_of_methodNamed hP1m
  obtain ⟨c1, kX, hc1, hk, hord, -, -, hn6⟩ := Cond.instantiable_spec (a (.instantiable cls 6) (by simp [Bundle.messageArmAtoms]))
  cases Option.some.inj (hc1.symm.trans hfound)
  have hinit := Cond.initialized_spec hfound hk (a (.initialized cls) (by simp [Bundle.messageArmAtoms]))
  have hctor : kX.findMethod "<init>" "(Ljava/lang/String;)V" = some P1.m.idx := findMethod_of_methodNamed hP1m hk
  have hsel0 : selectMethod e.platform s.vm P1.m.cls T.fill0 = .method T.fill0 := by
    obtain ⟨c2, r2, m2, q1, q2, q3, q4, -⟩ := Cond.selects_spec (a (.selects cls Bundle.tFill0 Bundle.tFill0) (by simp [Bundle.messageArmAtoms]))
    cases Option.some.inj (q1.symm.trans hfound)
    cases Option.some.inj (q2.symm.trans (State.methodFound?_of_named Y.fill0 (by decide)))
    cases Option.some.inj (q3.symm.trans Y.fill0)
    rw [Launch.admits_selectMethod X.admits]; exact q4
  have hselF : selectMethod e.platform s.vm P1.m.cls T.fill = .method T.fill := by
    obtain ⟨c2, r2, m2, q1, q2, q3, q4, -⟩ := Cond.selects_spec (a (.selects cls Bundle.tFill Bundle.tFill) (by simp [Bundle.messageArmAtoms]))
    cases Option.some.inj (q1.symm.trans hfound)
    cases Option.some.inj (q2.symm.trans (State.methodFound?_of_named Y.fill (by decide)))
    cases Option.some.inj (q3.symm.trans Y.fill)
    rw [Launch.admits_selectMethod X.admits]; exact q4
  obtain ⟨cellS0, hcS0, hiss⟩ := Y.statics
  obtain ⟨u0, hu0⟩ := Cond.staticRefV Y.unassigned L.unassignedStatic L.statics hcS0 hiss (a (.isRef (.static Bundle.tN "UNASSIGNED_STACK" Bundle.steD)) (by simp [Bundle.messageArmAtoms]))
  obtain ⟨sen, hsen⟩ := Cond.staticRefV Y.sentinel L.sentinelStatic L.statics hcS0 hiss (a (.isRef (.static Bundle.tN "SUPPRESSED_SENTINEL" Bundle.listD)) (by simp [Bundle.messageArmAtoms]))
  obtain ⟨ci198, i198, fB, hk198, hg198, ha198, hsB, -, hnB, htB, hffB⟩ := Cond.ownField (t := .object "java/lang/Object") Y.found L.cls (by decide +kernel) (a (.fieldLink Bundle.tN 198 Bundle.tN "backtrace" "Ljava/lang/Object;") (by simp [Bundle.messageArmAtoms])) (a (.lays Bundle.tN Bundle.tN "backtrace" "Ljava/lang/Object;") (by simp [Bundle.messageArmAtoms])) e.platform hpl
  obtain ⟨cellS, hcS', heS, -, hkeep⟩ := X.same.2.2.2.2.2 T.aS cellS0 hcS0
  have hcellS : W.heap[T.aS]? = some cellS := hcS'
  have hout' : ∀ i, (⟨T.aS, i⟩ : Loc) ∉ locs := fun i hmem => by
    have := hlocs _ hmem cellS0 hcS0
    rw [hiss] at this; cases this
  have hknownS : cellS.vm ≠ .unknown := by
    rw [heS]; intro hu
    rw [show cellS0.vm = .unknown from hu] at hiss
    cases hiss
  have hvU : cellS.slots[T.fUnassigned.slot]? = some u0.v := by rw [hkeep _ (hout' _)]; exact hu0
  have hvSen : cellS.slots[T.fSentinel.slot]? = some sen.v := by rw [hkeep _ (hout' _)]; exact hsen
  obtain ⟨iM, hffM⟩ := Y.msg
  obtain ⟨tyC, dC, hdC, hdnC⟩ := Cond.laysAt hfound hk Y.cause (a (.lays cls Bundle.tN "cause" "Ljava/lang/Throwable;") (by simp [Bundle.messageArmAtoms]))
  obtain ⟨tyS, dS, hdS, hdnS⟩ := Cond.laysAt hfound hk Y.stack (a (.lays cls Bundle.tN "stackTrace" Bundle.steD) (by simp [Bundle.messageArmAtoms]))
  obtain ⟨tyP, dP, hdP, hdnP⟩ := Cond.laysAt hfound hk Y.supp (a (.lays cls Bundle.tN "suppressedExceptions" Bundle.listD) (by simp [Bundle.messageArmAtoms]))
  obtain ⟨tyM, dM, hdM, hdnM⟩ := Cond.laysAt hfound hk hffM (a (.lays cls Bundle.tN "detailMessage" "Ljava/lang/String;") (by simp [Bundle.messageArmAtoms]))
  obtain ⟨tyB, dB, hdB, hdnB⟩ := Cond.laysAt hfound hk hffB (a (.lays cls Bundle.tN "backtrace" "Ljava/lang/Object;") (by simp [Bundle.messageArmAtoms]))
  have bC := Cond.laysApart hdB hdC hdnB hdnC (by rw [hnB, Y.causeName]; decide)
  have bS := Cond.laysApart hdB hdS hdnB hdnS (by rw [hnB, Y.stackName]; decide)
  have bP := Cond.laysApart hdB hdP hdnB hdnP (by rw [hnB, Y.suppName]; decide)
  have hbk : ((preparedCellV T.toThrowableT (freshCell P1.m.cls kX) (W.heap.size + 2) u0 sen).withEntry W.cur).slots[fB.slot]? = some .null := by
    have := fresh_default (c := P1.m.cls) tyB
    rw [htB] at this
    simpa [preparedCellV, Cell.setSlot, Cell.withEntry, Array.getElem?_setIfInBounds, bC, bS, bP, bC.symm, bS.symm, bP.symm, defaultValue] using this
  have tkC := Takes.of_laid (v := .ref (W.heap.size + 2)) hk hord tyC (by rw [Y.causeType]; rfl)
  have tkS := Takes.of_laid (v := u0.v) hk hord tyS (by rw [Y.stackType]; exact fits_refV_array _ u0)
  have tkP := Takes.of_laid (v := sen.v) hk hord tyP (by rw [Y.suppType]; exact fits_refV_object _ sen)
  have tkM := Takes.of_laid (v := .ref (W.heap.size + 1)) hk hord tyM (by rw [Y.msgType]; rfl)
  have hskip : SkipFacts T e.platform s (fun u => u) u0 ((preparedCellV T.toThrowableT (freshCell P1.m.cls kX) (W.heap.size + 2) u0 sen).withEntry W.cur) := ⟨{ ci198 := ci198, i198 := i198, fBack := fB }, ⟨hk198, hg198, ha198, hsB⟩, hbk, fun _ _ => rfl⟩
  have h0 : At W g.method c below := by rw [hg]; exact X.here
  obtain ⟨hbeyond, hfreeW⟩ := X.vmMayThrow hsize (.throwNew cls (some text) none) (fun f hf => by cases hf) rfl hRlocals
  have hfr' : W.frames.length + Ps.length + 4 < (e.platform.stackLimits W.me).1 := by have := X.framesAbove hRframes; omega
  have hwd' : (stackUse (.java g :: W.frames.tail)).2 + 13 * Ps.length + 55 ≤ (e.platform.stackLimits W.me).2 := by have := X.stackAbove hsize (K := 13 * Ps.length + 55) (by omega); omega
  have hslots : W.slotsUsed + (stringBytes (stringToUtf16 text)).size + Zs.kS.instanceTypes.size + kX.instanceTypes.size ≤ e.platform.maxSlots := by
    have := X.slotsAbove hRslots
    rw [hn4, hn6]
    omega
  obtain ⟨vm', hW', st⟩ := Steps.vmThrowsMessageColdByV p (s₀ := s) (S := W) (g := g) h0 hexec T L Z LZ M LM X.warmed (t := W.cur) rfl Zs LZs P1 L1 Ps hL hlink1 hlink hsoe hoom hfound hk hinit hord hctor
    (Launch.admits_hotImplicitExceptions X.admits) hbeyond hfreeW htext hlimit hheap (X.cellsAbove hRcells) hslots (hfitv _) (hfitc _)
    (Nn := fun u => u) heapOnly_id (fun _ _ => rfl) (fun _ => rfl) (fun u x y => setCell_twice _ _ _ _) (fun _ => Nat.le_refl _) (cN := ((preparedCellV T.toThrowableT (freshCell P1.m.cls kX) (W.heap.size + 2) u0 sen).withEntry W.cur))
    hsel0 hcellS hknownS hvU tkS (fun _ hu => hu) (fun _ hu => hu) rfl rfl rfl (by simp [preparedCellV, Cell.setSlot, Cell.withEntry]) hskip (fun _ _ hA hW _ hroom _ hrest => L.nativeOff p htr hA hW hroom hrest) hselF hvSen tkC tkP tkM Y.objLocals rfl hfr' hwd'
  rw [plainBareV_eq T.toThrowableT (W.heap.size + 2) u0 sen (.ref (W.heap.size + 1)) W.cur rfl rfl] at st
  obtain ⟨-, -, w3, w4, -, -, -⟩ := withThrown_facts e.platform W Zs text P1.m.cls kX
  have X3 := ((X.pushed (bytesOf Zs.cB (stringToUtf16 text))).pushed (stringAt Zs.cS Zs.kS Zs.fv Zs.fc (stringToUtf16 text) W.heap.size)).pushed (freshCell P1.m.cls kX)
  rw [← withString_eq] at X3
  have X4 := X3.noted hW'
  have ha : (W.heap.size + 2) < ((withThrown W Zs text P1.m.cls kX).setVm vm').heap.size := by show _ < (withThrown W Zs text P1.m.cls kX).heap.size; rw [w3]; omega
  have hcell : ((withThrown W Zs text P1.m.cls kX).setVm vm').heap[(W.heap.size + 2)]? = some (freshCell P1.m.cls kX) := w4
  have X5 := ((((X4.stored hcell T.fCause.slot (.ref (W.heap.size + 2))).storedAgain ha T.fStack.slot u0.v).storedAgain ha T.fSupp.slot sen.v).storedAgain ha T.fStack.slot u0.v).storedAgain ha T.fMsg.slot (.ref (W.heap.size + 1))
  obtain ⟨g₁, hfrM⟩ := X5.frames_eq
  have hU : ((((withThrown W Zs text P1.m.cls kX).setVm vm').setCell (W.heap.size + 2) (plainBareV T.toThrowableT (freshCell P1.m.cls kX) (W.heap.size + 2) u0 sen (.ref (W.heap.size + 1)))).setTop g).pushFrame (.throwing (W.heap.size + 2)) = (((withThrown W Zs text P1.m.cls kX).setVm vm').setCell (W.heap.size + 2) (plainBareV T.toThrowableT (freshCell P1.m.cls kX) (W.heap.size + 2) u0 sen (.ref (W.heap.size + 1)))).setFrames (.throwing (W.heap.size + 2) :: .java g :: below) := by
    rw [State.pushFrame, State.frames_setTop _ hfrM, State.setTop_of_frames _ hfrM, State.setFrames_setFrames]
  have b1 : (bytesOf Zs.cB (stringToUtf16 text)).slots.size = (stringBytes (stringToUtf16 text)).size := by
    rw [(Cell.writeAll_facts _ _).2.2]; simp [bytes0]
  have b2 : (stringAt Zs.cS Zs.kS Zs.fv Zs.fc (stringToUtf16 text) W.heap.size).slots.size = 4 := by simp [string0, Cell.setSlot, hn4]
  have b3 : (freshCell P1.m.cls kX).slots.size = 6 := by simp [hn6]
  rw [b1, b2, b3] at X5
  have e9 : slots + (stringBytes (stringToUtf16 text)).size + 4 + 6 = slots + ((stringBytes (stringToUtf16 text)).size + 4 + 6) := by omega
  rw [e9] at X5
  simp only [List.append_assoc, List.cons_append, List.nil_append] at X5
  refine ⟨((withThrown W Zs text P1.m.cls kX).setVm vm').setCell (W.heap.size + 2) (plainBareV T.toThrowableT (freshCell P1.m.cls kX) (W.heap.size + 2) u0 sen (.ref (W.heap.size + 1))), W.heap.size + 2, _, fun target ht => st _ (by rw [X.tail, ← hU]; exact ht),
    X5.forget (fun y hy => ?_), heapAt_setCell_self _ ha, hfound, rfl⟩
  simp only [List.mem_cons, List.not_mem_nil, or_false] at hy
  have hge : s.heap.size ≤ W.heap.size := X.same.2.1
  rcases hy with rfl | rfl | rfl | rfl | rfl <;> exact Nat.le_trans hge (Nat.le_add_right _ 2)
set_option maxHeartbeats 1000000 in
/-- the machine throws NullPointerException, no traces kept: from its note over the frame g to 'throwing' over the same frame (follows the proof of Stand.vmThrowsNpe, Shelf42/KT2.lean; throwsNpeColdBareVAt, Shelf42/NT91.lean, called) -/
theorem vx_npeAt {p : Program} {l : Launch} {e : Env} {R : Room} {s : State} {m₀ : MethodId} {args : Array Value} {below : List Frame} {meth : Method} {c : Code} {W : State} {locs : List Loc} {cells slots : Nat}
    (X : Stand p l e R s m₀ args below meth c W locs cells slots) (hexec : p.tables.exec = Jvm.exec) (htr : e.platform.stackTraces = false) {n : Nat}
    (h : ∀ a ∈ Bundle.npeArmAtoms n, a.before args s = true)
    (hlocs : ∀ x ∈ locs, ∀ cell, s.heap[x.base]? = some cell → cell.vm.isStatics = false)
    {g : JFrame} (hg : g.method = m₀) (hsize : g.locals.size = c.maxLocals)
    (hRframes : 7 < R.frames) (hRlocals : 2 * g.monitorRoom + (g.stack.map fun v => v.category).sum + 10240 ≤ R.locals)
    (hRcells : cells + 1 ≤ R.cells) (hRslots : slots + n ≤ R.slots) (hlocks : meth.locks = false) :
    ∃ (S : State) (q : Addr) (ce : Cell), (∀ target, Steps p.tables e below ((S.setTop g).pushFrame (.throwing q)) target → Steps p.tables e below ((W.setTop g).pushFrame (.throwNew "java/lang/NullPointerException" none none)) target) ∧
      Stand p l e R s m₀ args below meth c S locs (cells + 1) (slots + n) ∧ S.heap[q]? = some ce ∧ s.vm.findClass "java/lang/NullPointerException" = some ce.cls ∧ ce.vm = .none := by
  have howns : e.platform.frameOwnsMonitors = true := by rw [X.admits.platform]
  have hfin : e.platform.finalization = false := by rw [X.admits.platform]
  have hpl : e.platform.magicAccessors = ({} : Platform).magicAccessors := by rw [X.admits.platform]
  have hpl2 : e.platform.arrayCloneIsPublic = true := by rw [X.admits.platform]
  have a' : ∀ x, x ∈ Bundle.npeArmAtoms n → x.holds args s none s [] = true := fun x hx => h x hx
  obtain ⟨T, Z, L, LZ, Y⟩ := ThrowableC.of_atoms (args := args) howns hfin hpl (fun x hx => h x (by simp [Bundle.npeArmAtoms, hx]))
  obtain ⟨N, LN, hcN, hnNF, hordN, hffS⟩ := NpeC.of_atoms (args := args) hpl hpl2 L Y (fun x hx => h x (by simp [Bundle.npeArmAtoms, hx]))
  obtain ⟨P1, L1, hP1m, hP1s⟩ := PassC.of_atoms (args := args) (s := s) hpl (X := Bundle.nN) (Y := Bundle.rN) (by decide) (by decide) LibCode.NullPointerException.Init0.at_0 LibCode.NullPointerException.Init0.at_1 LibCode.NullPointerException.Init0.at_4 (fun x hx => h x (by simp [Bundle.npeArmAtoms, hx]))
  obtain ⟨PR, LR, hPRm, hPRs⟩ := PassC.of_atoms (args := args) (s := s) hpl (X := Bundle.rN) (Y := Bundle.eN) (by decide) (by decide) LibCode.RuntimeException.Init0.at_0 LibCode.RuntimeException.Init0.at_1 LibCode.RuntimeException.Init0.at_4 (fun x hx => h x (by simp [Bundle.npeArmAtoms, hx]))
  obtain ⟨PE, LEx, hPEm, hPEs⟩ := PassC.of_atoms (args := args) (s := s) hpl (X := Bundle.eN) (Y := Bundle.tN) (by decide) (by decide) LibCode.Exception.Init0.at_0 LibCode.Exception.Init0.at_1 LibCode.Exception.Init0.at_4 (fun x hx => h x (by simp [Bundle.npeArmAtoms, hx]))
  have hfound : s.vm.findClass Bundle.nN = some P1.m.cls := findClass_of_methodNamed hP1m
  have ecls : N.cN = P1.m.cls := Option.some.inj (hcN.symm.trans hfound)
  have hk : s.vm.classes[P1.m.cls]? = some N.kN := by rw [← ecls]; exact LN.cls
  have hinit := Cond.initialized_spec hfound hk (a' (.initialized Bundle.nN) (by simp [Bundle.npeArmAtoms]))
  have hctor : N.kN.findMethod "<init>" "()V" = some P1.m.idx := findMethod_of_methodNamed hP1m hk
  obtain ⟨c1, k1, hc1, hk1, -, -, -, hn⟩ := Cond.instantiable_spec (a' (.instantiable Bundle.nN n) (by simp [Bundle.npeArmAtoms]))
  cases Option.some.inj (hc1.symm.trans hfound)
  cases Option.some.inj (hk1.symm.trans hk)
  have hfsz : (freshCell P1.m.cls N.kN).slots.size = n := by simp [hn]
  have hlink1 : P1.sup = PR.m := Option.some.inj (hP1s.symm.trans hPRm)
  have hlinkR : PR.sup = PE.m := Option.some.inj (hPRs.symm.trans hPEm)
  have hlinkE : PE.sup = Z.m T.toThrowableT := Option.some.inj (hPEs.symm.trans Y.init0)
  have hLs : ∀ P, P ∈ [PR, PE] → P.Links0 e.platform s := fun P hP => by
    simp only [List.mem_cons, List.not_mem_nil, or_false] at hP
    rcases hP with rfl | rfl
    · exact LR
    · exact LEx
  have hsel0 : selectMethod e.platform s.vm P1.m.cls T.fill0 = .method T.fill0 := by
    obtain ⟨c2, r2, m2, q1, q2, q3, q4, -⟩ := Cond.selects_spec (a' (.selects Bundle.nN Bundle.tFill0 Bundle.tFill0) (by simp [Bundle.npeArmAtoms]))
    cases Option.some.inj (q1.symm.trans hfound)
    cases Option.some.inj (q2.symm.trans (State.methodFound?_of_named Y.fill0 (by decide)))
    cases Option.some.inj (q3.symm.trans Y.fill0)
    rw [Launch.admits_selectMethod X.admits]; exact q4
  have hselF : selectMethod e.platform s.vm P1.m.cls T.fill = .method N.fill := by
    obtain ⟨c2, r2, m2, q1, q2, q3, q4, -⟩ := Cond.selects_spec (a' (.selects Bundle.nN Bundle.tFill Bundle.nFill) (by simp [Bundle.npeArmAtoms]))
    cases Option.some.inj (q1.symm.trans hfound)
    cases Option.some.inj (q2.symm.trans (State.methodFound?_of_named Y.fill (by decide)))
    cases Option.some.inj (q3.symm.trans hnNF)
    rw [Launch.admits_selectMethod X.admits]; exact q4
  obtain ⟨cellS0, hcS0, hiss⟩ := Y.statics
  obtain ⟨u0, hu0⟩ := Cond.staticRefV Y.unassigned L.unassignedStatic L.statics hcS0 hiss (a' (.isRef (.static Bundle.tN "UNASSIGNED_STACK" Bundle.steD)) (by simp [Bundle.npeArmAtoms]))
  obtain ⟨sen, hsen⟩ := Cond.staticRefV Y.sentinel L.sentinelStatic L.statics hcS0 hiss (a' (.isRef (.static Bundle.tN "SUPPRESSED_SENTINEL" Bundle.listD)) (by simp [Bundle.npeArmAtoms]))
  obtain ⟨ci198, i198, fB, hk198, hg198, ha198, hsB, -, hnB, htB, hffB⟩ := Cond.ownField (t := .object "java/lang/Object") Y.found L.cls (by decide +kernel) (a' (.fieldLink Bundle.tN 198 Bundle.tN "backtrace" Bundle.objD) (by simp [Bundle.npeArmAtoms])) (a' (.lays Bundle.tN Bundle.tN "backtrace" Bundle.objD) (by simp [Bundle.npeArmAtoms])) e.platform hpl
  obtain ⟨cellS, hcS', heS, -, hkeep⟩ := X.same.2.2.2.2.2 T.aS cellS0 hcS0
  have hcellS : W.heap[T.aS]? = some cellS := hcS'
  have hout' : ∀ i, (⟨T.aS, i⟩ : Loc) ∉ locs := fun i hmem => by
    have := hlocs _ hmem cellS0 hcS0
    rw [hiss] at this; cases this
  have hknownS : cellS.vm ≠ .unknown := by
    rw [heS]; intro hu
    rw [show cellS0.vm = .unknown from hu] at hiss
    cases hiss
  have hvU : cellS.slots[T.fUnassigned.slot]? = some u0.v := by rw [hkeep _ (hout' _)]; exact hu0
  have hvSen : cellS.slots[T.fSentinel.slot]? = some sen.v := by rw [hkeep _ (hout' _)]; exact hsen
  obtain ⟨tyC, dC, hdC, hdnC⟩ := Cond.laysAt hfound hk Y.cause (a' (.lays Bundle.nN Bundle.tN "cause" "Ljava/lang/Throwable;") (by simp [Bundle.npeArmAtoms]))
  obtain ⟨tyS, dS, hdS, hdnS⟩ := Cond.laysAt hfound hk Y.stack (a' (.lays Bundle.nN Bundle.tN "stackTrace" Bundle.steD) (by simp [Bundle.npeArmAtoms]))
  obtain ⟨tyP, dP, hdP, hdnP⟩ := Cond.laysAt hfound hk Y.supp (a' (.lays Bundle.nN Bundle.tN "suppressedExceptions" Bundle.listD) (by simp [Bundle.npeArmAtoms]))
  obtain ⟨tyX, dX, hdX, hdnX⟩ := Cond.laysAt hfound hk hffS (a' (.lays Bundle.nN Bundle.nN "extendedMessageState" "I") (by simp [Bundle.npeArmAtoms, Bundle.npeAtoms]))
  obtain ⟨hnX, htX⟩ := State.fieldFound?_type hffS (t := .int) (by decide +kernel)
  have xC := Cond.laysApart hdC hdX hdnC hdnX (by rw [hnX, Y.causeName]; decide)
  have xS := Cond.laysApart hdS hdX hdnS hdnX (by rw [hnX, Y.stackName]; decide)
  have xP := Cond.laysApart hdP hdX hdnP hdnX (by rw [hnX, Y.suppName]; decide)
  have hv0 : (freshCell P1.m.cls N.kN).slots[N.fState.slot]? = some (.int 0) := by
    have := fresh_default (c := P1.m.cls) tyX
    rw [htX] at this; exact this
  obtain ⟨tyB, dB, hdB, hdnB⟩ := Cond.laysAt hfound hk hffB (a' (.lays Bundle.nN Bundle.tN "backtrace" Bundle.objD) (by simp [Bundle.npeArmAtoms]))
  have bC := Cond.laysApart hdB hdC hdnB hdnC (by rw [hnB, Y.causeName]; decide)
  have bS := Cond.laysApart hdB hdS hdnB hdnS (by rw [hnB, Y.stackName]; decide)
  have bP := Cond.laysApart hdB hdP hdnB hdnP (by rw [hnB, Y.suppName]; decide)
  have bX := Cond.laysApart hdB hdX hdnB hdnX (by rw [hnB, hnX]; decide)
  have hbk : ((npeCell N.toNpeT (preparedCellV T.toThrowableT (freshCell P1.m.cls N.kN) W.heap.size u0 sen) W.cur).withEntry W.cur).slots[fB.slot]? = some .null := by
    have := fresh_default (c := P1.m.cls) tyB
    rw [htB] at this
    simpa [npeCell, preparedCellV, Cell.setSlot, Cell.withEntry, Array.getElem?_setIfInBounds, bC, bS, bP, bX, bC.symm, bS.symm, bP.symm, bX.symm, defaultValue] using this
  have tkC := Takes.of_laid (v := .ref W.heap.size) hk hordN tyC (by rw [Y.causeType]; rfl)
  have tkS := Takes.of_laid (v := u0.v) hk hordN tyS (by rw [Y.stackType]; exact fits_refV_array _ u0)
  have tkP := Takes.of_laid (v := sen.v) hk hordN tyP (by rw [Y.suppType]; exact fits_refV_object _ sen)
  have tkX := Takes.of_laid (v := .int 1) hk hordN tyX (by rw [htX]; rfl)
  have hskip : SkipFacts T e.platform s (fun u => u) u0 ((npeCell N.toNpeT (preparedCellV T.toThrowableT (freshCell P1.m.cls N.kN) W.heap.size u0 sen) W.cur).withEntry W.cur) := ⟨{ ci198 := ci198, i198 := i198, fBack := fB }, ⟨hk198, hg198, ha198, hsB⟩, hbk, fun _ _ => rfl⟩
  obtain ⟨vm', X3, st, -⟩ := X.throwsNpeColdBareVAt hexec hg hsize T L Z LZ N LN P1 L1 [PR, PE] hLs hlink1 ⟨hlinkR, hlinkE, trivial⟩ hfound hk hinit hordN hctor hsel0 hselF hcellS hknownS hvU hvSen
    hv0 xC xS xP tkC tkS tkP tkX Y.objLocals hskip (fun _ _ hA hW _ hroom _ hrest => L.nativeOff p htr hA hW hroom hrest) (by simpa using hRframes) hRlocals (by simp) hRcells (by rw [hn]; exact hRslots)
  have hlt : W.heap.size < ((W.pushCell (freshCell P1.m.cls N.kN)).setVm vm').heap.size := by
    show W.heap.size < (W.pushCell (freshCell P1.m.cls N.kN)).heap.size
    rw [State.heap_size_pushCell]; omega
  rw [hfsz] at X3
  obtain ⟨g₁, hfrM⟩ := X3.frames_eq
  have hU : ((((W.pushCell (freshCell P1.m.cls N.kN)).setVm vm').setCell W.heap.size (npeBareV T.toThrowableT N.toNpeT (freshCell P1.m.cls N.kN) W.heap.size u0 sen)).setTop g).pushFrame (.throwing W.heap.size) = (((W.pushCell (freshCell P1.m.cls N.kN)).setVm vm').setCell W.heap.size (npeBareV T.toThrowableT N.toNpeT (freshCell P1.m.cls N.kN) W.heap.size u0 sen)).setFrames (.throwing W.heap.size :: .java g :: below) := by
    rw [State.pushFrame, State.frames_setTop _ hfrM, State.setTop_of_frames _ hfrM, State.setFrames_setFrames]
  refine ⟨_, W.heap.size, _, fun target ht => st.trans (by rw [← hU]; exact ht), X3.forget (fun y hy => ?_), heapAt_setCell_self _ hlt, hfound, rfl⟩
  simp only [List.mem_cons, List.not_mem_nil, or_false] at hy
  have hge : s.heap.size ≤ W.heap.size := X.same.2.1
  rcases hy with rfl | rfl | rfl | rfl | rfl <;> exact hge
/-- the words of a machine's NullPointerException, but the four that speak of the heap -/
def vx_atN (n : Nat) : List Cond := (Bundle.npeArmAtoms n).filter vx_no
/-- the words of a machine's throw with a message, but the four that speak of the heap -/
def vx_atM (X : String) (names : List String) : List Cond := (Bundle.messageArmAtoms X names).filter vx_no
section
variable {p : Program} {l : Launch} {e : Env} {R : Room} {s : State} {m : MethodId} {args : Array Value} {below : List Frame} {meth : Method} {c : Code} {H : Heap} {locs : List Loc} {cells slots : Nat}
/-- a frame seen from a rebased start, seen from the first start again -/
theorem vx_back9 {T S : State} {R' : Room} {k n : Nat} (X : Stand p l e R s m args below meth c T locs cells slots) (Y : Stand p l e R' ((T.setVm s.vm).setFrames (.invoking m args :: below)) m args below meth c T [] 0 0) (Z : Stand p l e R' ((T.setVm s.vm).setFrames (.invoking m args :: below)) m args below meth c S [] k n) :
    Stand p l e R s m args below meth c S locs (cells + k) (slots + n) := by
  have hW0 : s.WarmedH ((T.setVm s.vm).setFrames (.invoking m args :: below)).vm := State.WarmedH.refl s
  refine { admits := X.admits, cas := X.cas, clock := X.clock, frames := X.frames, room := X.room, hears := X.hears, method := X.method, code := X.code, here := Z.here, tail := Z.tail, warmed := State.WarmedH.trans hW0 Z.warmed, limits := Z.limits.trans (Y.limits.symm.trans X.limits), bytes := Z.bytes.trans (Y.bytes.symm.trans X.bytes), same := ?_ }
  obtain ⟨e1, e2⟩ := Z.same
  rw [State.setFrames_setFrames] at e1
  have h2 : (T.setVm s.vm).sameButNew (S.setVm s.vm) [] k n := ⟨e1, e2⟩
  have h3 := X.same.trans h2
  rw [List.append_nil] at h3
  exact h3
/-- from the machine's note that E is thrown here with this text -/
def vx_Note (p : Program) (l : Launch) (e : Env) (R : Room) (s : State) (m : MethodId) (args : Array Value) (below : List Frame) (meth : Method) (c : Code) (H : Heap) (locs : List Loc) (cells slots : Nat) (Q : State → Prop) (g : JFrame) (E text : String) : Prop :=
  ∀ T : State, T.heap = H → Stand p l e R s m args below meth c T locs cells slots → ∃ t, Steps p.tables e below ((T.setTop g).pushFrame (.throwNew E (some text) none)) t ∧ Q t
theorem vx_vm {pc : Nat} {ls : Array Slot} {rest : List Value} {Q : State → Prop} (hexec : p.tables.exec = Jvm.exec) (hl : l.stackTraces = false) {cls text : String} {names : List String} {nb : Nat} {A : Nat → Prop}
    (hcls : Bundle.fit cls = true) (hnames : ∀ n ∈ names, Bundle.fit n = true) (hsoe : (cls == "java/lang/StackOverflowError") = false) (hoom : (cls == "java/lang/OutOfMemoryError") = false)
    (hat : ∀ w ∈ vx_atM cls names, w.before args s = true) (hgood : ∀ w ∈ vx_atM cls names, vx_ot w = true)
    (hU : vx_Zq Bundle.tN "UNASSIGNED_STACK" Bundle.steD A s s.heap) (hN : vx_Zq Bundle.tN "SUPPRESSED_SENTINEL" Bundle.listD A s s.heap) (hS : va_S A s.heap H locs) (hsize : ls.size = c.maxLocals)
    (htext : (text == notModelled) = false) (hnb : (stringBytes (stringToUtf16 text)).size ≤ nb) (hnb1 : nb ≤ 1000)
    (hRframes : names.length + 4 < R.frames) (hRlocals : (rest.map fun v => v.category).sum + 10240 ≤ R.locals) (hshort : 13 * names.length + 55 ≤ 10240) (hRcells : cells + 3 ≤ R.cells) (hRslots : slots + (nb + 10) ≤ R.slots) (hlocks : meth.locks = false)
    (k : ∀ (H1 : Heap) (q9 : Addr) (ce : Cell), H.size ≤ H1.size → (∀ q : Nat, q < H.size → H1[q]? = H[q]?) → va_S A s.heap H1 locs → H1[q9]? = some ce → ce.vm = .none → s.vm.findClass cls = some ce.cls → vx_W p l e R s m args below meth c H1 locs (cells + 3) (slots + (nb + 10)) Q (F0 m pc ls rest) q9) :
    vx_Note p l e R s m args below meth c H locs cells slots Q (F0 m pc ls rest) cls text := by
  intro T hT X
  have htr : e.platform.stackTraces = false := (show e.platform.stackTraces = l.stackTraces by rw [X.admits.platform]).trans hl
  have Y := vx_rebase X (R' := { frames := R.frames, locals := R.locals, cells := 3, slots := nb + 10 }) (Nat.le_refl _) (Nat.le_refl _) hRcells hRslots
  have hhp : ((T.setVm s.vm).setFrames (.invoking m args :: below)).heap = H := hT
  have hW0 : s.WarmedH ((T.setVm s.vm).setFrames (.invoking m args :: below)).vm := State.WarmedH.refl s
  have hat' : ∀ w ∈ vx_atM cls names, w.before args ((T.setVm s.vm).setFrames (.invoking m args :: below)) = true := fun w hw => vx_ot_at hW0 rfl (hgood w hw) (hat w hw)
  have hU' : vx_Zq Bundle.tN "UNASSIGNED_STACK" Bundle.steD A ((T.setVm s.vm).setFrames (.invoking m args :: below)) ((T.setVm s.vm).setFrames (.invoking m args :: below)).heap := by rw [hhp]; exact vx_Zq.moved hW0.alike (hU.kept hS.2.1)
  have hN' : vx_Zq Bundle.tN "SUPPRESSED_SENTINEL" Bundle.listD A ((T.setVm s.vm).setFrames (.invoking m args :: below)) ((T.setVm s.vm).setFrames (.invoking m args :: below)).heap := by rw [hhp]; exact vx_Zq.moved hW0.alike (hN.kept hS.2.1)
  obtain ⟨S, q, ce, st, Z, hce, hcl', hv⟩ := vx_vmAt Y hexec htr (cls := cls) (names := names) (text := text) hcls hnames hsoe hoom (vx_own hat' (vx_isRefq hU'.1) (vx_isRefq hN'.1) hU'.2.word hN'.2.word) (fun x hx => nomatch hx) htext
    (by rw [Launch.admits_arrayLengthLimit X.admits]; omega) (by rw [Launch.admits_maxHeapBytes X.admits]; simp only [componentBytes]; omega)
    (g := F0 m pc ls rest) rfl hsize hRframes (by show 2 * 0 + (rest.map fun v => v.category).sum + 10240 ≤ R.locals; omega) hshort (by show 0 + 3 ≤ 3; omega) (by show 0 + (_ + 4 + 6) ≤ nb + 10; omega) hlocks
  obtain ⟨f1, f2⟩ := vx_frame Z.same
  have f1' : H.size ≤ S.heap.size := by rw [← hT]; exact f1
  have f2' : ∀ q : Nat, q < H.size → S.heap[q]? = H[q]? := fun q hq => by
    rw [← hT]
    exact f2 q (by rw [← hT] at hq; exact hq) (fun z hz => nomatch hz)
  have X5 := vx_back9 X Y Z
  have X6 : Stand p l e R s m args below meth c S locs (cells + 3) (slots + (nb + 10)) := { X5 with same := X5.same.mono (by omega) (by omega) }
  obtain ⟨t, a1, b1⟩ := k S.heap q ce f1' f2' ⟨Nat.le_trans hS.1 f1', fun q h1 h2 => (f2' q (Nat.lt_of_lt_of_le h1 hS.1)).trans (hS.2.1 q h1 h2), hS.2.2⟩ hce hv hcl' S rfl X6
  exact ⟨t, st t a1, b1⟩
/-- from the machine's note that NullPointerException is thrown here -/
def vx_NoteN (p : Program) (l : Launch) (e : Env) (R : Room) (s : State) (m : MethodId) (args : Array Value) (below : List Frame) (meth : Method) (c : Code) (H : Heap) (locs : List Loc) (cells slots : Nat) (Q : State → Prop) (g : JFrame) : Prop :=
  ∀ T : State, T.heap = H → Stand p l e R s m args below meth c T locs cells slots → ∃ t, Steps p.tables e below ((T.setTop g).pushFrame (.throwNew "java/lang/NullPointerException" none none)) t ∧ Q t
theorem vx_npe {pc : Nat} {ls : Array Slot} {rest : List Value} {Q : State → Prop} (hexec : p.tables.exec = Jvm.exec) (hl : l.stackTraces = false) {nb : Nat} {A : Nat → Prop}
    (hat : ∀ w ∈ vx_atN nb, w.before args s = true) (hgood : ∀ w ∈ vx_atN nb, vx_ot w = true)
    (hU : vx_Zq Bundle.tN "UNASSIGNED_STACK" Bundle.steD A s s.heap) (hN : vx_Zq Bundle.tN "SUPPRESSED_SENTINEL" Bundle.listD A s s.heap) (hS : va_S A s.heap H locs) (hsize : ls.size = c.maxLocals)
    (hRframes : 7 < R.frames) (hRlocals : (rest.map fun v => v.category).sum + 10240 ≤ R.locals) (hRcells : cells + 1 ≤ R.cells) (hRslots : slots + nb ≤ R.slots) (hlocks : meth.locks = false)
    (k : ∀ (H1 : Heap) (q9 : Addr) (ce : Cell), H.size ≤ H1.size → (∀ q : Nat, q < H.size → H1[q]? = H[q]?) → va_S A s.heap H1 locs → H1[q9]? = some ce → ce.vm = .none → s.vm.findClass "java/lang/NullPointerException" = some ce.cls → vx_W p l e R s m args below meth c H1 locs (cells + 1) (slots + nb) Q (F0 m pc ls rest) q9) :
    vx_NoteN p l e R s m args below meth c H locs cells slots Q (F0 m pc ls rest) := by
  intro T hT X
  have htr : e.platform.stackTraces = false := (show e.platform.stackTraces = l.stackTraces by rw [X.admits.platform]).trans hl
  have Y := vx_rebase X (R' := { frames := R.frames, locals := R.locals, cells := 1, slots := nb }) (Nat.le_refl _) (Nat.le_refl _) hRcells hRslots
  have hhp : ((T.setVm s.vm).setFrames (.invoking m args :: below)).heap = H := hT
  have hW0 : s.WarmedH ((T.setVm s.vm).setFrames (.invoking m args :: below)).vm := State.WarmedH.refl s
  have hat' : ∀ w ∈ vx_atN nb, w.before args ((T.setVm s.vm).setFrames (.invoking m args :: below)) = true := fun w hw => vx_ot_at hW0 rfl (hgood w hw) (hat w hw)
  have hU' : vx_Zq Bundle.tN "UNASSIGNED_STACK" Bundle.steD A ((T.setVm s.vm).setFrames (.invoking m args :: below)) ((T.setVm s.vm).setFrames (.invoking m args :: below)).heap := by rw [hhp]; exact vx_Zq.moved hW0.alike (hU.kept hS.2.1)
  have hN' : vx_Zq Bundle.tN "SUPPRESSED_SENTINEL" Bundle.listD A ((T.setVm s.vm).setFrames (.invoking m args :: below)) ((T.setVm s.vm).setFrames (.invoking m args :: below)).heap := by rw [hhp]; exact vx_Zq.moved hW0.alike (hN.kept hS.2.1)
  obtain ⟨S, q, ce, st, Z, hce, hcl', hv⟩ := vx_npeAt Y hexec htr (n := nb) (vx_own hat' (vx_isRefq hU'.1) (vx_isRefq hN'.1) hU'.2.word hN'.2.word) (fun x hx => nomatch hx)
    (g := F0 m pc ls rest) rfl hsize hRframes (by show 2 * 0 + (rest.map fun v => v.category).sum + 10240 ≤ R.locals; omega) (by show 0 + 1 ≤ 1; omega) (by show 0 + nb ≤ nb; omega) hlocks
  obtain ⟨f1, f2⟩ := vx_frame Z.same
  have f1' : H.size ≤ S.heap.size := by rw [← hT]; exact f1
  have f2' : ∀ q : Nat, q < H.size → S.heap[q]? = H[q]? := fun q hq => by
    rw [← hT]
    exact f2 q (by rw [← hT] at hq; exact hq) (fun z hz => nomatch hz)
  have X5 := vx_back9 X Y Z
  have X6 : Stand p l e R s m args below meth c S locs (cells + 1) (slots + nb) := { X5 with same := X5.same.mono (by omega) (by omega) }
  obtain ⟨t, a1, b1⟩ := k S.heap q ce f1' f2' ⟨Nat.le_trans hS.1 f1', fun q h1 h2 => (f2' q (Nat.lt_of_lt_of_le h1 hS.1)).trans (hS.2.1 q h1 h2), hS.2.2⟩ hce hv hcl' S rfl X6
  exact ⟨t, st t a1, b1⟩
variable {Q : State → Prop} {cc : ByteArray} {pc : Nat} {ls : Array Slot} {rest : List Value}
theorem vx_idivZ (hexec : p.tables.exec = Jvm.exec) (hb : c.code = cc) {a b : Int32} (h0 : b = 0) (d : decode cc pc = .ok (.idiv, 1)) (k : vx_Note p l e R s m args below meth c H locs cells slots Q (F0 m pc ls rest) "java/lang/ArithmeticException" "/ by zero") :
    W p l e R s m args below meth c H locs cells slots Q (F0 m pc ls (.int b :: .int a :: rest)) := by
  intro T hT X
  obtain ⟨t, st, q⟩ := k T hT X
  exact ⟨t, X.idivZero hexec (g := F0 m pc ls (.int b :: .int a :: rest)) rfl (a := a) (rest := rest) (by rw [h0]) (by rw [hb]; exact d) t st, q⟩
theorem vx_iremZ (hexec : p.tables.exec = Jvm.exec) (hb : c.code = cc) {a b : Int32} (h0 : b = 0) (d : decode cc pc = .ok (.irem, 1)) (k : vx_Note p l e R s m args below meth c H locs cells slots Q (F0 m pc ls rest) "java/lang/ArithmeticException" "/ by zero") :
    W p l e R s m args below meth c H locs cells slots Q (F0 m pc ls (.int b :: .int a :: rest)) := by
  intro T hT X
  obtain ⟨t, st, q⟩ := k T hT X
  exact ⟨t, X.iremZero hexec (g := F0 m pc ls (.int b :: .int a :: rest)) rfl (a := a) (rest := rest) (by rw [h0]) (by rw [hb]; exact d) t st, q⟩
theorem vx_ldivZ (hexec : p.tables.exec = Jvm.exec) (hb : c.code = cc) {a b : Int64} (h0 : b = 0) (d : decode cc pc = .ok (.ldiv, 1)) (k : vx_Note p l e R s m args below meth c H locs cells slots Q (F0 m pc ls rest) "java/lang/ArithmeticException" "/ by zero") :
    W p l e R s m args below meth c H locs cells slots Q (F0 m pc ls (.long b :: .long a :: rest)) := by
  intro T hT X
  obtain ⟨t, st, q⟩ := k T hT X
  exact ⟨t, X.ldivZero hexec (g := F0 m pc ls (.long b :: .long a :: rest)) rfl (a := a) (rest := rest) (by rw [h0]) (by rw [hb]; exact d) t st, q⟩
theorem vx_lremZ (hexec : p.tables.exec = Jvm.exec) (hb : c.code = cc) {a b : Int64} (h0 : b = 0) (d : decode cc pc = .ok (.lrem, 1)) (k : vx_Note p l e R s m args below meth c H locs cells slots Q (F0 m pc ls rest) "java/lang/ArithmeticException" "/ by zero") :
    W p l e R s m args below meth c H locs cells slots Q (F0 m pc ls (.long b :: .long a :: rest)) := by
  intro T hT X
  obtain ⟨t, st, q⟩ := k T hT X
  exact ⟨t, X.lremZero hexec (g := F0 m pc ls (.long b :: .long a :: rest)) rfl (a := a) (rest := rest) (by rw [h0]) (by rw [hb]; exact d) t st, q⟩
theorem vx_ialdZ {D : va_G} {cl : List vw_C} {ws : va_W} {tys : List (ClassId × FieldType)} {a : Nat} (hexec : p.tables.exec = Jvm.exec) (hb : c.code = cc) (hK : va_K D cl tys s) (hP : va_P D cl ws H) (q0 t0 : Nat) {cA : ClassId} {n : Nat} {f : Nat → Int32} (ha : ws[q0]? = some (a, .inl (cA, n, .inl f))) (ht : tys[t0]? = some (cA, .int)) {i : Int32} (hout : ¬ vp_in i n) (hdg : decode cc pc = .ok (.iaload, 1))
    (k : ∀ tx : String, tx = (toString "Index " ++ toString i ++ toString " out of bounds for length " ++ toString n : String) → vx_Note p l e R s m args below meth c H locs cells slots Q (F0 m pc ls rest) "java/lang/ArrayIndexOutOfBoundsException" tx) : W p l e R s m args below meth c H locs cells slots Q (F0 m pc ls (.int i :: .ref a :: rest)) := by
  intro T hT X
  obtain ⟨t, st, q⟩ := k _ rfl T hT X
  refine ⟨t, ?_, q⟩
  have h1 := X.ialoadOut hexec (by rw [hT]; exact hP q0 _ ha) ((hK.2 t0 _ ht).1 n (fun j => .int (f j))) (j := i) (by show (i < 0 ∨ (arrV _ _ _).slots.size ≤ _); rw [arrV_size]; exact Classical.byContradiction hout) (g := F0 m pc ls (.int i :: .ref a :: rest)) rfl (rest := rest) rfl (by rw [hb]; exact hdg) t
  simp only [arrV_size] at h1
  exact h1 st
theorem vx_iastZ {D : va_G} {cl : List vw_C} {ws : va_W} {tys : List (ClassId × FieldType)} {a : Nat} (hexec : p.tables.exec = Jvm.exec) (hb : c.code = cc) (hK : va_K D cl tys s) (hP : va_P D cl ws H) (q0 t0 : Nat) {cA : ClassId} {n : Nat} {f : Nat → Int32} (ha : ws[q0]? = some (a, .inl (cA, n, .inl f))) (ht : tys[t0]? = some (cA, .int)) {i : Int32} {x : Int32} (hout : ¬ vp_in i n) (hdg : decode cc pc = .ok (.iastore, 1))
    (k : ∀ tx : String, tx = (toString "Index " ++ toString i ++ toString " out of bounds for length " ++ toString n : String) → vx_Note p l e R s m args below meth c H locs cells slots Q (F0 m pc ls rest) "java/lang/ArrayIndexOutOfBoundsException" tx) : W p l e R s m args below meth c H locs cells slots Q (F0 m pc ls (.int x :: .int i :: .ref a :: rest)) := by
  intro T hT X
  obtain ⟨t, st, q⟩ := k _ rfl T hT X
  refine ⟨t, ?_, q⟩
  have h1 := X.iastoreOut hexec (by rw [hT]; exact hP q0 _ ha) ((hK.2 t0 _ ht).1 n (fun j => .int (f j))) (j := i) (by show (i < 0 ∨ (arrV _ _ _).slots.size ≤ _); rw [arrV_size]; exact Classical.byContradiction hout) (g := F0 m pc ls (.int x :: .int i :: .ref a :: rest)) rfl (rest := rest) rfl (by rw [hb]; exact hdg) t
  simp only [arrV_size] at h1
  exact h1 st
theorem vx_baldZ {D : va_G} {cl : List vw_C} {ws : va_W} {tys : List (ClassId × FieldType)} {a : Nat} (hexec : p.tables.exec = Jvm.exec) (hb : c.code = cc) (hK : va_K D cl tys s) (hP : va_P D cl ws H) (q0 t0 : Nat) {cA : ClassId} {n : Nat} {f : Nat → Int32} (ha : ws[q0]? = some (a, .inl (cA, n, .inl f))) (ht : tys[t0]? = some (cA, .byte)) {i : Int32} (hout : ¬ vp_in i n) (hdg : decode cc pc = .ok (.baload, 1))
    (k : ∀ tx : String, tx = (toString "Index " ++ toString i ++ toString " out of bounds for length " ++ toString n : String) → vx_Note p l e R s m args below meth c H locs cells slots Q (F0 m pc ls rest) "java/lang/ArrayIndexOutOfBoundsException" tx) : W p l e R s m args below meth c H locs cells slots Q (F0 m pc ls (.int i :: .ref a :: rest)) := by
  intro T hT X
  obtain ⟨t, st, q⟩ := k _ rfl T hT X
  refine ⟨t, ?_, q⟩
  have h1 := X.baloadOut hexec (by rw [hT]; exact hP q0 _ ha) ((hK.2 t0 _ ht).1 n (fun j => .int (f j))) (j := i) (by show (i < 0 ∨ (arrV _ _ _).slots.size ≤ _); rw [arrV_size]; exact Classical.byContradiction hout) (g := F0 m pc ls (.int i :: .ref a :: rest)) rfl (rest := rest) rfl (by rw [hb]; exact hdg) t
  simp only [arrV_size] at h1
  exact h1 st
theorem vx_bastZ {D : va_G} {cl : List vw_C} {ws : va_W} {tys : List (ClassId × FieldType)} {a : Nat} (hexec : p.tables.exec = Jvm.exec) (hb : c.code = cc) (hK : va_K D cl tys s) (hP : va_P D cl ws H) (q0 t0 : Nat) {cA : ClassId} {n : Nat} {f : Nat → Int32} (ha : ws[q0]? = some (a, .inl (cA, n, .inl f))) (ht : tys[t0]? = some (cA, .byte)) {i : Int32} {x : Int32} (hout : ¬ vp_in i n) (hdg : decode cc pc = .ok (.bastore, 1))
    (k : ∀ tx : String, tx = (toString "Index " ++ toString i ++ toString " out of bounds for length " ++ toString n : String) → vx_Note p l e R s m args below meth c H locs cells slots Q (F0 m pc ls rest) "java/lang/ArrayIndexOutOfBoundsException" tx) : W p l e R s m args below meth c H locs cells slots Q (F0 m pc ls (.int x :: .int i :: .ref a :: rest)) := by
  intro T hT X
  obtain ⟨t, st, q⟩ := k _ rfl T hT X
  refine ⟨t, ?_, q⟩
  have h1 := X.bastoreOut hexec (by rw [hT]; exact hP q0 _ ha) ((hK.2 t0 _ ht).1 n (fun j => .int (f j))) (j := i) (by show (i < 0 ∨ (arrV _ _ _).slots.size ≤ _); rw [arrV_size]; exact Classical.byContradiction hout) (g := F0 m pc ls (.int x :: .int i :: .ref a :: rest)) rfl (rest := rest) rfl (by rw [hb]; exact hdg) t
  simp only [arrV_size] at h1
  exact h1 st
theorem vx_zaldZ {D : va_G} {cl : List vw_C} {ws : va_W} {tys : List (ClassId × FieldType)} {a : Nat} (hexec : p.tables.exec = Jvm.exec) (hb : c.code = cc) (hK : va_K D cl tys s) (hP : va_P D cl ws H) (q0 t0 : Nat) {cA : ClassId} {n : Nat} {f : Nat → Int32} (ha : ws[q0]? = some (a, .inl (cA, n, .inl f))) (ht : tys[t0]? = some (cA, .boolean)) {i : Int32} (hout : ¬ vp_in i n) (hdg : decode cc pc = .ok (.baload, 1))
    (k : ∀ tx : String, tx = (toString "Index " ++ toString i ++ toString " out of bounds for length " ++ toString n : String) → vx_Note p l e R s m args below meth c H locs cells slots Q (F0 m pc ls rest) "java/lang/ArrayIndexOutOfBoundsException" tx) : W p l e R s m args below meth c H locs cells slots Q (F0 m pc ls (.int i :: .ref a :: rest)) := by
  intro T hT X
  obtain ⟨t, st, q⟩ := k _ rfl T hT X
  refine ⟨t, ?_, q⟩
  have h1 := X.baloadOut hexec (by rw [hT]; exact hP q0 _ ha) ((hK.2 t0 _ ht).1 n (fun j => .int (f j))) (j := i) (by show (i < 0 ∨ (arrV _ _ _).slots.size ≤ _); rw [arrV_size]; exact Classical.byContradiction hout) (g := F0 m pc ls (.int i :: .ref a :: rest)) rfl (rest := rest) rfl (by rw [hb]; exact hdg) t
  simp only [arrV_size] at h1
  exact h1 st
theorem vx_zastZ {D : va_G} {cl : List vw_C} {ws : va_W} {tys : List (ClassId × FieldType)} {a : Nat} (hexec : p.tables.exec = Jvm.exec) (hb : c.code = cc) (hK : va_K D cl tys s) (hP : va_P D cl ws H) (q0 t0 : Nat) {cA : ClassId} {n : Nat} {f : Nat → Int32} (ha : ws[q0]? = some (a, .inl (cA, n, .inl f))) (ht : tys[t0]? = some (cA, .boolean)) {i : Int32} {x : Int32} (hout : ¬ vp_in i n) (hdg : decode cc pc = .ok (.bastore, 1))
    (k : ∀ tx : String, tx = (toString "Index " ++ toString i ++ toString " out of bounds for length " ++ toString n : String) → vx_Note p l e R s m args below meth c H locs cells slots Q (F0 m pc ls rest) "java/lang/ArrayIndexOutOfBoundsException" tx) : W p l e R s m args below meth c H locs cells slots Q (F0 m pc ls (.int x :: .int i :: .ref a :: rest)) := by
  intro T hT X
  obtain ⟨t, st, q⟩ := k _ rfl T hT X
  refine ⟨t, ?_, q⟩
  have h1 := X.bastoreOut hexec (by rw [hT]; exact hP q0 _ ha) ((hK.2 t0 _ ht).1 n (fun j => .int (f j))) (j := i) (by show (i < 0 ∨ (arrV _ _ _).slots.size ≤ _); rw [arrV_size]; exact Classical.byContradiction hout) (g := F0 m pc ls (.int x :: .int i :: .ref a :: rest)) rfl (rest := rest) rfl (by rw [hb]; exact hdg) t
  simp only [arrV_size] at h1
  exact h1 st
theorem vx_caldZ {D : va_G} {cl : List vw_C} {ws : va_W} {tys : List (ClassId × FieldType)} {a : Nat} (hexec : p.tables.exec = Jvm.exec) (hb : c.code = cc) (hK : va_K D cl tys s) (hP : va_P D cl ws H) (q0 t0 : Nat) {cA : ClassId} {n : Nat} {f : Nat → Int32} (ha : ws[q0]? = some (a, .inl (cA, n, .inl f))) (ht : tys[t0]? = some (cA, .char)) {i : Int32} (hout : ¬ vp_in i n) (hdg : decode cc pc = .ok (.caload, 1))
    (k : ∀ tx : String, tx = (toString "Index " ++ toString i ++ toString " out of bounds for length " ++ toString n : String) → vx_Note p l e R s m args below meth c H locs cells slots Q (F0 m pc ls rest) "java/lang/ArrayIndexOutOfBoundsException" tx) : W p l e R s m args below meth c H locs cells slots Q (F0 m pc ls (.int i :: .ref a :: rest)) := by
  intro T hT X
  obtain ⟨t, st, q⟩ := k _ rfl T hT X
  refine ⟨t, ?_, q⟩
  have h1 := X.caloadOut hexec (by rw [hT]; exact hP q0 _ ha) ((hK.2 t0 _ ht).1 n (fun j => .int (f j))) (j := i) (by show (i < 0 ∨ (arrV _ _ _).slots.size ≤ _); rw [arrV_size]; exact Classical.byContradiction hout) (g := F0 m pc ls (.int i :: .ref a :: rest)) rfl (rest := rest) rfl (by rw [hb]; exact hdg) t
  simp only [arrV_size] at h1
  exact h1 st
theorem vx_castZ {D : va_G} {cl : List vw_C} {ws : va_W} {tys : List (ClassId × FieldType)} {a : Nat} (hexec : p.tables.exec = Jvm.exec) (hb : c.code = cc) (hK : va_K D cl tys s) (hP : va_P D cl ws H) (q0 t0 : Nat) {cA : ClassId} {n : Nat} {f : Nat → Int32} (ha : ws[q0]? = some (a, .inl (cA, n, .inl f))) (ht : tys[t0]? = some (cA, .char)) {i : Int32} {x : Int32} (hout : ¬ vp_in i n) (hdg : decode cc pc = .ok (.castore, 1))
    (k : ∀ tx : String, tx = (toString "Index " ++ toString i ++ toString " out of bounds for length " ++ toString n : String) → vx_Note p l e R s m args below meth c H locs cells slots Q (F0 m pc ls rest) "java/lang/ArrayIndexOutOfBoundsException" tx) : W p l e R s m args below meth c H locs cells slots Q (F0 m pc ls (.int x :: .int i :: .ref a :: rest)) := by
  intro T hT X
  obtain ⟨t, st, q⟩ := k _ rfl T hT X
  refine ⟨t, ?_, q⟩
  have h1 := X.castoreOut hexec (by rw [hT]; exact hP q0 _ ha) ((hK.2 t0 _ ht).1 n (fun j => .int (f j))) (j := i) (by show (i < 0 ∨ (arrV _ _ _).slots.size ≤ _); rw [arrV_size]; exact Classical.byContradiction hout) (g := F0 m pc ls (.int x :: .int i :: .ref a :: rest)) rfl (rest := rest) rfl (by rw [hb]; exact hdg) t
  simp only [arrV_size] at h1
  exact h1 st
theorem vx_saldZ {D : va_G} {cl : List vw_C} {ws : va_W} {tys : List (ClassId × FieldType)} {a : Nat} (hexec : p.tables.exec = Jvm.exec) (hb : c.code = cc) (hK : va_K D cl tys s) (hP : va_P D cl ws H) (q0 t0 : Nat) {cA : ClassId} {n : Nat} {f : Nat → Int32} (ha : ws[q0]? = some (a, .inl (cA, n, .inl f))) (ht : tys[t0]? = some (cA, .short)) {i : Int32} (hout : ¬ vp_in i n) (hdg : decode cc pc = .ok (.saload, 1))
    (k : ∀ tx : String, tx = (toString "Index " ++ toString i ++ toString " out of bounds for length " ++ toString n : String) → vx_Note p l e R s m args below meth c H locs cells slots Q (F0 m pc ls rest) "java/lang/ArrayIndexOutOfBoundsException" tx) : W p l e R s m args below meth c H locs cells slots Q (F0 m pc ls (.int i :: .ref a :: rest)) := by
  intro T hT X
  obtain ⟨t, st, q⟩ := k _ rfl T hT X
  refine ⟨t, ?_, q⟩
  have h1 := X.saloadOut hexec (by rw [hT]; exact hP q0 _ ha) ((hK.2 t0 _ ht).1 n (fun j => .int (f j))) (j := i) (by show (i < 0 ∨ (arrV _ _ _).slots.size ≤ _); rw [arrV_size]; exact Classical.byContradiction hout) (g := F0 m pc ls (.int i :: .ref a :: rest)) rfl (rest := rest) rfl (by rw [hb]; exact hdg) t
  simp only [arrV_size] at h1
  exact h1 st
theorem vx_sastZ {D : va_G} {cl : List vw_C} {ws : va_W} {tys : List (ClassId × FieldType)} {a : Nat} (hexec : p.tables.exec = Jvm.exec) (hb : c.code = cc) (hK : va_K D cl tys s) (hP : va_P D cl ws H) (q0 t0 : Nat) {cA : ClassId} {n : Nat} {f : Nat → Int32} (ha : ws[q0]? = some (a, .inl (cA, n, .inl f))) (ht : tys[t0]? = some (cA, .short)) {i : Int32} {x : Int32} (hout : ¬ vp_in i n) (hdg : decode cc pc = .ok (.sastore, 1))
    (k : ∀ tx : String, tx = (toString "Index " ++ toString i ++ toString " out of bounds for length " ++ toString n : String) → vx_Note p l e R s m args below meth c H locs cells slots Q (F0 m pc ls rest) "java/lang/ArrayIndexOutOfBoundsException" tx) : W p l e R s m args below meth c H locs cells slots Q (F0 m pc ls (.int x :: .int i :: .ref a :: rest)) := by
  intro T hT X
  obtain ⟨t, st, q⟩ := k _ rfl T hT X
  refine ⟨t, ?_, q⟩
  have h1 := X.sastoreOut hexec (by rw [hT]; exact hP q0 _ ha) ((hK.2 t0 _ ht).1 n (fun j => .int (f j))) (j := i) (by show (i < 0 ∨ (arrV _ _ _).slots.size ≤ _); rw [arrV_size]; exact Classical.byContradiction hout) (g := F0 m pc ls (.int x :: .int i :: .ref a :: rest)) rfl (rest := rest) rfl (by rw [hb]; exact hdg) t
  simp only [arrV_size] at h1
  exact h1 st
theorem vx_laldZ {D : va_G} {cl : List vw_C} {ws : va_W} {tys : List (ClassId × FieldType)} {a : Nat} (hexec : p.tables.exec = Jvm.exec) (hb : c.code = cc) (hK : va_K D cl tys s) (hP : va_P D cl ws H) (q0 t0 : Nat) {cA : ClassId} {n : Nat} {f : Nat → Int64} (ha : ws[q0]? = some (a, .inl (cA, n, .inr (.inl f)))) (ht : tys[t0]? = some (cA, .long)) {i : Int32} (hout : ¬ vp_in i n) (hdg : decode cc pc = .ok (.laload, 1))
    (k : ∀ tx : String, tx = (toString "Index " ++ toString i ++ toString " out of bounds for length " ++ toString n : String) → vx_Note p l e R s m args below meth c H locs cells slots Q (F0 m pc ls rest) "java/lang/ArrayIndexOutOfBoundsException" tx) : W p l e R s m args below meth c H locs cells slots Q (F0 m pc ls (.int i :: .ref a :: rest)) := by
  intro T hT X
  obtain ⟨t, st, q⟩ := k _ rfl T hT X
  refine ⟨t, ?_, q⟩
  have h1 := X.laloadOut hexec (by rw [hT]; exact hP q0 _ ha) ((hK.2 t0 _ ht).1 n (fun j => .long (f j))) (j := i) (by show (i < 0 ∨ (arrV _ _ _).slots.size ≤ _); rw [arrV_size]; exact Classical.byContradiction hout) (g := F0 m pc ls (.int i :: .ref a :: rest)) rfl (rest := rest) rfl (by rw [hb]; exact hdg) t
  simp only [arrV_size] at h1
  exact h1 st
theorem vx_lastZ {D : va_G} {cl : List vw_C} {ws : va_W} {tys : List (ClassId × FieldType)} {a : Nat} (hexec : p.tables.exec = Jvm.exec) (hb : c.code = cc) (hK : va_K D cl tys s) (hP : va_P D cl ws H) (q0 t0 : Nat) {cA : ClassId} {n : Nat} {f : Nat → Int64} (ha : ws[q0]? = some (a, .inl (cA, n, .inr (.inl f)))) (ht : tys[t0]? = some (cA, .long)) {i : Int32} {x : Int64} (hout : ¬ vp_in i n) (hdg : decode cc pc = .ok (.lastore, 1))
    (k : ∀ tx : String, tx = (toString "Index " ++ toString i ++ toString " out of bounds for length " ++ toString n : String) → vx_Note p l e R s m args below meth c H locs cells slots Q (F0 m pc ls rest) "java/lang/ArrayIndexOutOfBoundsException" tx) : W p l e R s m args below meth c H locs cells slots Q (F0 m pc ls (.long x :: .int i :: .ref a :: rest)) := by
  intro T hT X
  obtain ⟨t, st, q⟩ := k _ rfl T hT X
  refine ⟨t, ?_, q⟩
  have h1 := X.lastoreOut hexec (by rw [hT]; exact hP q0 _ ha) ((hK.2 t0 _ ht).1 n (fun j => .long (f j))) (j := i) (by show (i < 0 ∨ (arrV _ _ _).slots.size ≤ _); rw [arrV_size]; exact Classical.byContradiction hout) (g := F0 m pc ls (.long x :: .int i :: .ref a :: rest)) rfl (rest := rest) rfl (by rw [hb]; exact hdg) t
  simp only [arrV_size] at h1
  exact h1 st
theorem vx_faldZ {D : va_G} {cl : List vw_C} {ws : va_W} {tys : List (ClassId × FieldType)} {a : Nat} (hexec : p.tables.exec = Jvm.exec) (hb : c.code = cc) (hK : va_K D cl tys s) (hP : va_P D cl ws H) (q0 t0 : Nat) {cA : ClassId} {n : Nat} {f : Nat → UInt32} (ha : ws[q0]? = some (a, .inl (cA, n, .inr (.inr (.inl f))))) (ht : tys[t0]? = some (cA, .float)) {i : Int32} (hout : ¬ vp_in i n) (hdg : decode cc pc = .ok (.faload, 1))
    (k : ∀ tx : String, tx = (toString "Index " ++ toString i ++ toString " out of bounds for length " ++ toString n : String) → vx_Note p l e R s m args below meth c H locs cells slots Q (F0 m pc ls rest) "java/lang/ArrayIndexOutOfBoundsException" tx) : W p l e R s m args below meth c H locs cells slots Q (F0 m pc ls (.int i :: .ref a :: rest)) := by
  intro T hT X
  obtain ⟨t, st, q⟩ := k _ rfl T hT X
  refine ⟨t, ?_, q⟩
  have h1 := X.faloadOut hexec (by rw [hT]; exact hP q0 _ ha) ((hK.2 t0 _ ht).1 n (fun j => .float (f j))) (j := i) (by show (i < 0 ∨ (arrV _ _ _).slots.size ≤ _); rw [arrV_size]; exact Classical.byContradiction hout) (g := F0 m pc ls (.int i :: .ref a :: rest)) rfl (rest := rest) rfl (by rw [hb]; exact hdg) t
  simp only [arrV_size] at h1
  exact h1 st
theorem vx_fastZ {D : va_G} {cl : List vw_C} {ws : va_W} {tys : List (ClassId × FieldType)} {a : Nat} (hexec : p.tables.exec = Jvm.exec) (hb : c.code = cc) (hK : va_K D cl tys s) (hP : va_P D cl ws H) (q0 t0 : Nat) {cA : ClassId} {n : Nat} {f : Nat → UInt32} (ha : ws[q0]? = some (a, .inl (cA, n, .inr (.inr (.inl f))))) (ht : tys[t0]? = some (cA, .float)) {i : Int32} {x : UInt32} (hout : ¬ vp_in i n) (hdg : decode cc pc = .ok (.fastore, 1))
    (k : ∀ tx : String, tx = (toString "Index " ++ toString i ++ toString " out of bounds for length " ++ toString n : String) → vx_Note p l e R s m args below meth c H locs cells slots Q (F0 m pc ls rest) "java/lang/ArrayIndexOutOfBoundsException" tx) : W p l e R s m args below meth c H locs cells slots Q (F0 m pc ls (.float x :: .int i :: .ref a :: rest)) := by
  intro T hT X
  obtain ⟨t, st, q⟩ := k _ rfl T hT X
  refine ⟨t, ?_, q⟩
  have h1 := X.fastoreOut hexec (by rw [hT]; exact hP q0 _ ha) ((hK.2 t0 _ ht).1 n (fun j => .float (f j))) (j := i) (by show (i < 0 ∨ (arrV _ _ _).slots.size ≤ _); rw [arrV_size]; exact Classical.byContradiction hout) (g := F0 m pc ls (.float x :: .int i :: .ref a :: rest)) rfl (rest := rest) rfl (by rw [hb]; exact hdg) t
  simp only [arrV_size] at h1
  exact h1 st
theorem vx_daldZ {D : va_G} {cl : List vw_C} {ws : va_W} {tys : List (ClassId × FieldType)} {a : Nat} (hexec : p.tables.exec = Jvm.exec) (hb : c.code = cc) (hK : va_K D cl tys s) (hP : va_P D cl ws H) (q0 t0 : Nat) {cA : ClassId} {n : Nat} {f : Nat → UInt64} (ha : ws[q0]? = some (a, .inl (cA, n, .inr (.inr (.inr (.inl f)))))) (ht : tys[t0]? = some (cA, .double)) {i : Int32} (hout : ¬ vp_in i n) (hdg : decode cc pc = .ok (.daload, 1))
    (k : ∀ tx : String, tx = (toString "Index " ++ toString i ++ toString " out of bounds for length " ++ toString n : String) → vx_Note p l e R s m args below meth c H locs cells slots Q (F0 m pc ls rest) "java/lang/ArrayIndexOutOfBoundsException" tx) : W p l e R s m args below meth c H locs cells slots Q (F0 m pc ls (.int i :: .ref a :: rest)) := by
  intro T hT X
  obtain ⟨t, st, q⟩ := k _ rfl T hT X
  refine ⟨t, ?_, q⟩
  have h1 := X.daloadOut hexec (by rw [hT]; exact hP q0 _ ha) ((hK.2 t0 _ ht).1 n (fun j => .double (f j))) (j := i) (by show (i < 0 ∨ (arrV _ _ _).slots.size ≤ _); rw [arrV_size]; exact Classical.byContradiction hout) (g := F0 m pc ls (.int i :: .ref a :: rest)) rfl (rest := rest) rfl (by rw [hb]; exact hdg) t
  simp only [arrV_size] at h1
  exact h1 st
theorem vx_dastZ {D : va_G} {cl : List vw_C} {ws : va_W} {tys : List (ClassId × FieldType)} {a : Nat} (hexec : p.tables.exec = Jvm.exec) (hb : c.code = cc) (hK : va_K D cl tys s) (hP : va_P D cl ws H) (q0 t0 : Nat) {cA : ClassId} {n : Nat} {f : Nat → UInt64} (ha : ws[q0]? = some (a, .inl (cA, n, .inr (.inr (.inr (.inl f)))))) (ht : tys[t0]? = some (cA, .double)) {i : Int32} {x : UInt64} (hout : ¬ vp_in i n) (hdg : decode cc pc = .ok (.dastore, 1))
    (k : ∀ tx : String, tx = (toString "Index " ++ toString i ++ toString " out of bounds for length " ++ toString n : String) → vx_Note p l e R s m args below meth c H locs cells slots Q (F0 m pc ls rest) "java/lang/ArrayIndexOutOfBoundsException" tx) : W p l e R s m args below meth c H locs cells slots Q (F0 m pc ls (.double x :: .int i :: .ref a :: rest)) := by
  intro T hT X
  obtain ⟨t, st, q⟩ := k _ rfl T hT X
  refine ⟨t, ?_, q⟩
  have h1 := X.dastoreOut hexec (by rw [hT]; exact hP q0 _ ha) ((hK.2 t0 _ ht).1 n (fun j => .double (f j))) (j := i) (by show (i < 0 ∨ (arrV _ _ _).slots.size ≤ _); rw [arrV_size]; exact Classical.byContradiction hout) (g := F0 m pc ls (.double x :: .int i :: .ref a :: rest)) rfl (rest := rest) rfl (by rw [hb]; exact hdg) t
  simp only [arrV_size] at h1
  exact h1 st
theorem vx_arraylengthN (hexec : p.tables.exec = Jvm.exec) (hb : c.code = cc) (hdg : decode cc pc = .ok (.arraylength, 1)) (k : vx_NoteN p l e R s m args below meth c H locs cells slots Q (F0 m pc ls rest)) : W p l e R s m args below meth c H locs cells slots Q (F0 m pc ls (.null :: rest)) := by
  intro T hT X
  obtain ⟨t, st, q⟩ := k T hT X
  exact ⟨t, X.arraylengthNull hexec (g := F0 m pc ls (.null :: rest)) rfl (rest := rest) rfl (by rw [hb]; exact hdg) t st, q⟩
theorem vx_ialoadN (hexec : p.tables.exec = Jvm.exec) (hb : c.code = cc) {i : Int32} (hdg : decode cc pc = .ok (.iaload, 1)) (k : vx_NoteN p l e R s m args below meth c H locs cells slots Q (F0 m pc ls rest)) : W p l e R s m args below meth c H locs cells slots Q (F0 m pc ls (.int i :: .null :: rest)) := by
  intro T hT X
  obtain ⟨t, st, q⟩ := k T hT X
  exact ⟨t, X.ialoadNull hexec (g := F0 m pc ls (.int i :: .null :: rest)) rfl (rest := rest) rfl (by rw [hb]; exact hdg) t st, q⟩
theorem vx_laloadN (hexec : p.tables.exec = Jvm.exec) (hb : c.code = cc) {i : Int32} (hdg : decode cc pc = .ok (.laload, 1)) (k : vx_NoteN p l e R s m args below meth c H locs cells slots Q (F0 m pc ls rest)) : W p l e R s m args below meth c H locs cells slots Q (F0 m pc ls (.int i :: .null :: rest)) := by
  intro T hT X
  obtain ⟨t, st, q⟩ := k T hT X
  exact ⟨t, X.laloadNull hexec (g := F0 m pc ls (.int i :: .null :: rest)) rfl (rest := rest) rfl (by rw [hb]; exact hdg) t st, q⟩
theorem vx_faloadN (hexec : p.tables.exec = Jvm.exec) (hb : c.code = cc) {i : Int32} (hdg : decode cc pc = .ok (.faload, 1)) (k : vx_NoteN p l e R s m args below meth c H locs cells slots Q (F0 m pc ls rest)) : W p l e R s m args below meth c H locs cells slots Q (F0 m pc ls (.int i :: .null :: rest)) := by
  intro T hT X
  obtain ⟨t, st, q⟩ := k T hT X
  exact ⟨t, X.faloadNull hexec (g := F0 m pc ls (.int i :: .null :: rest)) rfl (rest := rest) rfl (by rw [hb]; exact hdg) t st, q⟩
theorem vx_daloadN (hexec : p.tables.exec = Jvm.exec) (hb : c.code = cc) {i : Int32} (hdg : decode cc pc = .ok (.daload, 1)) (k : vx_NoteN p l e R s m args below meth c H locs cells slots Q (F0 m pc ls rest)) : W p l e R s m args below meth c H locs cells slots Q (F0 m pc ls (.int i :: .null :: rest)) := by
  intro T hT X
  obtain ⟨t, st, q⟩ := k T hT X
  exact ⟨t, X.daloadNull hexec (g := F0 m pc ls (.int i :: .null :: rest)) rfl (rest := rest) rfl (by rw [hb]; exact hdg) t st, q⟩
theorem vx_aaloadN (hexec : p.tables.exec = Jvm.exec) (hb : c.code = cc) {i : Int32} (hdg : decode cc pc = .ok (.aaload, 1)) (k : vx_NoteN p l e R s m args below meth c H locs cells slots Q (F0 m pc ls rest)) : W p l e R s m args below meth c H locs cells slots Q (F0 m pc ls (.int i :: .null :: rest)) := by
  intro T hT X
  obtain ⟨t, st, q⟩ := k T hT X
  exact ⟨t, X.aaloadNull hexec (g := F0 m pc ls (.int i :: .null :: rest)) rfl (rest := rest) rfl (by rw [hb]; exact hdg) t st, q⟩
theorem vx_baloadN (hexec : p.tables.exec = Jvm.exec) (hb : c.code = cc) {i : Int32} (hdg : decode cc pc = .ok (.baload, 1)) (k : vx_NoteN p l e R s m args below meth c H locs cells slots Q (F0 m pc ls rest)) : W p l e R s m args below meth c H locs cells slots Q (F0 m pc ls (.int i :: .null :: rest)) := by
  intro T hT X
  obtain ⟨t, st, q⟩ := k T hT X
  exact ⟨t, X.baloadNull hexec (g := F0 m pc ls (.int i :: .null :: rest)) rfl (rest := rest) rfl (by rw [hb]; exact hdg) t st, q⟩
theorem vx_caloadN (hexec : p.tables.exec = Jvm.exec) (hb : c.code = cc) {i : Int32} (hdg : decode cc pc = .ok (.caload, 1)) (k : vx_NoteN p l e R s m args below meth c H locs cells slots Q (F0 m pc ls rest)) : W p l e R s m args below meth c H locs cells slots Q (F0 m pc ls (.int i :: .null :: rest)) := by
  intro T hT X
  obtain ⟨t, st, q⟩ := k T hT X
  exact ⟨t, X.caloadNull hexec (g := F0 m pc ls (.int i :: .null :: rest)) rfl (rest := rest) rfl (by rw [hb]; exact hdg) t st, q⟩
theorem vx_saloadN (hexec : p.tables.exec = Jvm.exec) (hb : c.code = cc) {i : Int32} (hdg : decode cc pc = .ok (.saload, 1)) (k : vx_NoteN p l e R s m args below meth c H locs cells slots Q (F0 m pc ls rest)) : W p l e R s m args below meth c H locs cells slots Q (F0 m pc ls (.int i :: .null :: rest)) := by
  intro T hT X
  obtain ⟨t, st, q⟩ := k T hT X
  exact ⟨t, X.saloadNull hexec (g := F0 m pc ls (.int i :: .null :: rest)) rfl (rest := rest) rfl (by rw [hb]; exact hdg) t st, q⟩
theorem vx_iastoreN (hexec : p.tables.exec = Jvm.exec) (hb : c.code = cc) {x : Int32} {i : Int32} (hdg : decode cc pc = .ok (.iastore, 1)) (k : vx_NoteN p l e R s m args below meth c H locs cells slots Q (F0 m pc ls rest)) : W p l e R s m args below meth c H locs cells slots Q (F0 m pc ls (.int x :: .int i :: .null :: rest)) := by
  intro T hT X
  obtain ⟨t, st, q⟩ := k T hT X
  exact ⟨t, X.iastoreNull hexec (g := F0 m pc ls (.int x :: .int i :: .null :: rest)) rfl (rest := rest) rfl (by rw [hb]; exact hdg) t st, q⟩
theorem vx_lastoreN (hexec : p.tables.exec = Jvm.exec) (hb : c.code = cc) {x : Int64} {i : Int32} (hdg : decode cc pc = .ok (.lastore, 1)) (k : vx_NoteN p l e R s m args below meth c H locs cells slots Q (F0 m pc ls rest)) : W p l e R s m args below meth c H locs cells slots Q (F0 m pc ls (.long x :: .int i :: .null :: rest)) := by
  intro T hT X
  obtain ⟨t, st, q⟩ := k T hT X
  exact ⟨t, X.lastoreNull hexec (g := F0 m pc ls (.long x :: .int i :: .null :: rest)) rfl (rest := rest) rfl (by rw [hb]; exact hdg) t st, q⟩
theorem vx_fastoreN (hexec : p.tables.exec = Jvm.exec) (hb : c.code = cc) {x : UInt32} {i : Int32} (hdg : decode cc pc = .ok (.fastore, 1)) (k : vx_NoteN p l e R s m args below meth c H locs cells slots Q (F0 m pc ls rest)) : W p l e R s m args below meth c H locs cells slots Q (F0 m pc ls (.float x :: .int i :: .null :: rest)) := by
  intro T hT X
  obtain ⟨t, st, q⟩ := k T hT X
  exact ⟨t, X.fastoreNull hexec (g := F0 m pc ls (.float x :: .int i :: .null :: rest)) rfl (rest := rest) rfl (by rw [hb]; exact hdg) t st, q⟩
theorem vx_dastoreN (hexec : p.tables.exec = Jvm.exec) (hb : c.code = cc) {x : UInt64} {i : Int32} (hdg : decode cc pc = .ok (.dastore, 1)) (k : vx_NoteN p l e R s m args below meth c H locs cells slots Q (F0 m pc ls rest)) : W p l e R s m args below meth c H locs cells slots Q (F0 m pc ls (.double x :: .int i :: .null :: rest)) := by
  intro T hT X
  obtain ⟨t, st, q⟩ := k T hT X
  exact ⟨t, X.dastoreNull hexec (g := F0 m pc ls (.double x :: .int i :: .null :: rest)) rfl (rest := rest) rfl (by rw [hb]; exact hdg) t st, q⟩
theorem vx_bastoreN (hexec : p.tables.exec = Jvm.exec) (hb : c.code = cc) {x : Int32} {i : Int32} (hdg : decode cc pc = .ok (.bastore, 1)) (k : vx_NoteN p l e R s m args below meth c H locs cells slots Q (F0 m pc ls rest)) : W p l e R s m args below meth c H locs cells slots Q (F0 m pc ls (.int x :: .int i :: .null :: rest)) := by
  intro T hT X
  obtain ⟨t, st, q⟩ := k T hT X
  exact ⟨t, X.bastoreNull hexec (g := F0 m pc ls (.int x :: .int i :: .null :: rest)) rfl (rest := rest) rfl (by rw [hb]; exact hdg) t st, q⟩
theorem vx_castoreN (hexec : p.tables.exec = Jvm.exec) (hb : c.code = cc) {x : Int32} {i : Int32} (hdg : decode cc pc = .ok (.castore, 1)) (k : vx_NoteN p l e R s m args below meth c H locs cells slots Q (F0 m pc ls rest)) : W p l e R s m args below meth c H locs cells slots Q (F0 m pc ls (.int x :: .int i :: .null :: rest)) := by
  intro T hT X
  obtain ⟨t, st, q⟩ := k T hT X
  exact ⟨t, X.castoreNull hexec (g := F0 m pc ls (.int x :: .int i :: .null :: rest)) rfl (rest := rest) rfl (by rw [hb]; exact hdg) t st, q⟩
theorem vx_sastoreN (hexec : p.tables.exec = Jvm.exec) (hb : c.code = cc) {x : Int32} {i : Int32} (hdg : decode cc pc = .ok (.sastore, 1)) (k : vx_NoteN p l e R s m args below meth c H locs cells slots Q (F0 m pc ls rest)) : W p l e R s m args below meth c H locs cells slots Q (F0 m pc ls (.int x :: .int i :: .null :: rest)) := by
  intro T hT X
  obtain ⟨t, st, q⟩ := k T hT X
  exact ⟨t, X.sastoreNull hexec (g := F0 m pc ls (.int x :: .int i :: .null :: rest)) rfl (rest := rest) rfl (by rw [hb]; exact hdg) t st, q⟩
theorem vx_invokeN {own C : String} {index maxL : Nat} {y : MethodName} {bytes : ByteArray} {ret : Option FieldType} (hexec : p.tables.exec = Jvm.exec) (hb : c.code = cc) (hown : s.vm.findClass own = some m.cls) (hlink : (Cond.methodLink own index y).before args s = true) (hinst : (Cond.instanceMethod y).before args s = true) (hcode : (Cond.code y bytes maxL ret).before args s = true) (hsel : (Cond.selects C y y).before args s = true)
    (hx : y.cls ≠ "java/lang/invoke/MethodHandle" ∧ y.cls ≠ "java/lang/invoke/VarHandle") {As : List Value} (hlen : (parseMethodDescriptor y.desc).map (fun d => d.parameters.length) = some As.length) (hdg : decode cc pc = .ok (.invokevirtual index, 3))
    (k : vx_NoteN p l e R s m args below meth c H locs cells slots Q (F0 m pc ls rest)) {st0 : List Value} (hst : st0 = As.reverse ++ .null :: rest) : W p l e R s m args below meth c H locs cells slots Q (F0 m pc ls st0) := by
  intro T hT X
  obtain ⟨r0, r, hn, hrm, hstR, hsigR⟩ := va_Decl.of hinst hcode
  obtain ⟨c2, r2, m2, q1, q2, q3, q4, kP, hkP, hkPi⟩ := Cond.selects_spec hsel
  cases hn.symm.trans q3
  have hl9 : As.length = r.sig.parameters.length := by
    rw [hsigR] at hlen
    exact (Option.some.inj hlen).symm
  obtain ⟨vm', X1, st1⟩ := X.invokevirtualNull hexec hown hlink hn hrm hstR hkP hkPi hx (g := F0 m pc ls st0) rfl (argsL := As) (rest := rest) hl9 hst (by rw [hb]; exact hdg)
  obtain ⟨t, st, q⟩ := k (T.setVm vm') hT X1
  exact ⟨t, st1 t st, q⟩
theorem vx_newarrayZ {atype : ArrayType} (hexec : p.tables.exec = Jvm.exec) (hb : c.code = cc) {n : Int32} (h0 : n < 0) (hdg : decode cc pc = .ok (.newarray atype, 2)) (k : ∀ tx : String, tx = toString n → vx_Note p l e R s m args below meth c H locs cells slots Q (F0 m pc ls rest) "java/lang/NegativeArraySizeException" tx) : W p l e R s m args below meth c H locs cells slots Q (F0 m pc ls (.int n :: rest)) := by
  intro T hT X
  obtain ⟨t, st, q⟩ := k _ rfl T hT X
  exact ⟨t, X.newarrayNegative hexec (g := F0 m pc ls (.int n :: rest)) rfl h0 (rest := rest) rfl (by rw [hb]; exact hdg) t st, q⟩
end
end VXM
/-! ===== END ===== -/
end
section
def RX0 : String := "ScoreOrchestra$1"
def TX0 : u_T := fun k => match k with
  | _ => ("", "", "", false)
def tyX0 : Nat → FieldType := fun k => match k with
  | _ => .int
abbrev wsX00 : List Cond := u_ws RX0 TX0 0
theorem nmX0 : ∀ a, a < 0 → ∀ b, b < 0 → a ≠ b → (TX0 a).2.1 ≠ (TX0 b).2.1 := by decide +kernel
theorem tyX0_ok : ∀ k, k < 0 → parseFieldDescriptor (TX0 k).2.2.1 = some (tyX0 k) := by decide +kernel
def RX1 : String := "ScoreOrchestra$Command"
def TX1 : u_T := fun k => match k with
  | 0 => ("ScoreOrchestra$Command", "verb", "LScoreOrchestra$Verb;", false)
  | 1 => ("ScoreOrchestra$Command", "values", "[I", true)
  | _ => ("ScoreOrchestra$Command", "count", "I", false)
def tyX1 : Nat → FieldType := fun k => match k with
  | 0 => .object "ScoreOrchestra$Verb"
  | 1 => .array .int
  | _ => .int
abbrev wsX10 : List Cond := u_ws RX1 TX1 3
theorem nmX1 : ∀ a, a < 3 → ∀ b, b < 3 → a ≠ b → (TX1 a).2.1 ≠ (TX1 b).2.1 := by decide +kernel
theorem tyX1_ok : ∀ k, k < 3 → parseFieldDescriptor (TX1 k).2.2.1 = some (tyX1 k) := by decide +kernel
abbrev cX1_init : ByteArray := prog_3_method_1_code
def yX1_init : MethodName := ⟨RX1, "<init>", "()V"⟩
abbrev cX1_begin : ByteArray := prog_3_method_2_code
def yX1_begin : MethodName := ⟨RX1, "begin", "(LScoreOrchestra$Verb;)V"⟩
abbrev cX1_put : ByteArray := prog_3_method_3_code
def yX1_put : MethodName := ⟨RX1, "put", "(I)V"⟩
abbrev cX1_valueAt : ByteArray := prog_3_method_4_code
def yX1_valueAt : MethodName := ⟨RX1, "valueAt", "(I)I"⟩
def RX2 : String := "ScoreOrchestra$History"
def TX2 : u_T := fun k => match k with
  | 0 => ("ScoreOrchestra$History", "states", "[LScoreOrchestra$State;", true)
  | 1 => ("ScoreOrchestra$History", "next", "I", false)
  | _ => ("ScoreOrchestra$History", "count", "I", false)
def tyX2 : Nat → FieldType := fun k => match k with
  | 0 => .array (.object "ScoreOrchestra$State")
  | 1 => .int
  | _ => .int
abbrev wsX20 : List Cond := u_ws RX2 TX2 3
theorem nmX2 : ∀ a, a < 3 → ∀ b, b < 3 → a ≠ b → (TX2 a).2.1 ≠ (TX2 b).2.1 := by decide +kernel
theorem tyX2_ok : ∀ k, k < 3 → parseFieldDescriptor (TX2 k).2.2.1 = some (tyX2 k) := by decide +kernel
abbrev cX2_init : ByteArray := prog_4_method_1_code
def yX2_init : MethodName := ⟨RX2, "<init>", "()V"⟩
abbrev cX2_prepare : ByteArray := prog_4_method_2_code
def yX2_prepare : MethodName := ⟨RX2, "prepare", "(LScoreOrchestra$State;)V"⟩
abbrev cX2_keep : ByteArray := prog_4_method_3_code
def yX2_keep : MethodName := ⟨RX2, "keep", "()V"⟩
abbrev cX2_putBack : ByteArray := prog_4_method_4_code
def yX2_putBack : MethodName := ⟨RX2, "putBack", "(LScoreOrchestra$State;)V"⟩
abbrev cX2_stepBack : ByteArray := prog_4_method_5_code
def yX2_stepBack : MethodName := ⟨RX2, "stepBack", "(LScoreOrchestra$State;)V"⟩
abbrev cX2_forget : ByteArray := prog_4_method_6_code
def yX2_forget : MethodName := ⟨RX2, "forget", "()V"⟩
def RX3 : String := "ScoreOrchestra$Script"
def TX3 : u_T := fun k => match k with
  | 0 => ("ScoreOrchestra$Script", "buffer", "LScoreOrchestra$Text;", true)
  | 1 => ("ScoreOrchestra$Script", "commands", "[LScoreOrchestra$Command;", true)
  | 2 => ("ScoreOrchestra$Script", "count", "I", false)
  | _ => ("ScoreOrchestra$Script", "position", "I", false)
def tyX3 : Nat → FieldType := fun k => match k with
  | 0 => .object "ScoreOrchestra$Text"
  | 1 => .array (.object "ScoreOrchestra$Command")
  | 2 => .int
  | _ => .int
abbrev wsX30 : List Cond := u_ws RX3 TX3 4
theorem nmX3 : ∀ a, a < 4 → ∀ b, b < 4 → a ≠ b → (TX3 a).2.1 ≠ (TX3 b).2.1 := by decide +kernel
theorem tyX3_ok : ∀ k, k < 4 → parseFieldDescriptor (TX3 k).2.2.1 = some (tyX3 k) := by decide +kernel
abbrev cX3_init : ByteArray := prog_5_method_1_code
def yX3_init : MethodName := ⟨RX3, "<init>", "()V"⟩
abbrev cX3_read : ByteArray := prog_5_method_2_code
def yX3_read : MethodName := ⟨RX3, "read", "()Z"⟩
abbrev cX3_readCommand : ByteArray := prog_5_method_3_code
def yX3_readCommand : MethodName := ⟨RX3, "readCommand", "()Z"⟩
abbrev cX3_readWord : ByteArray := prog_5_method_4_code
def yX3_readWord : MethodName := ⟨RX3, "readWord", "()I"⟩
abbrev cX3_commonLength : ByteArray := prog_5_method_5_code
def yX3_commonLength : MethodName := ⟨RX3, "commonLength", "(Ljava/lang/String;)I"⟩
abbrev cX3_readPart : ByteArray := prog_5_method_6_code
def yX3_readPart : MethodName := ⟨RX3, "readPart", "(LScoreOrchestra$Command;C)Z"⟩
abbrev cX3_readKind : ByteArray := prog_5_method_7_code
def yX3_readKind : MethodName := ⟨RX3, "readKind", "(LScoreOrchestra$Command;)Z"⟩
abbrev cX3_readDigit : ByteArray := prog_5_method_8_code
def yX3_readDigit : MethodName := ⟨RX3, "readDigit", "(LScoreOrchestra$Command;)Z"⟩
abbrev cX3_readNumber : ByteArray := prog_5_method_9_code
def yX3_readNumber : MethodName := ⟨RX3, "readNumber", "(LScoreOrchestra$Command;)Z"⟩
abbrev cX3_readSign : ByteArray := prog_5_method_10_code
def yX3_readSign : MethodName := ⟨RX3, "readSign", "(LScoreOrchestra$Command;)Z"⟩
abbrev cX3_takeDigit : ByteArray := prog_5_method_11_code
def yX3_takeDigit : MethodName := ⟨RX3, "takeDigit", "()I"⟩
abbrev cX3_take : ByteArray := prog_5_method_12_code
def yX3_take : MethodName := ⟨RX3, "take", "(C)Z"⟩
def RX4 : String := "ScoreOrchestra$Section"
def TX4 : u_T := fun k => match k with
  | 0 => ("ScoreOrchestra$Section", "kind", "C", false)
  | 1 => ("ScoreOrchestra$Section", "rows", "I", false)
  | 2 => ("ScoreOrchestra$Section", "columns", "I", false)
  | 3 => ("ScoreOrchestra$Section", "notes", "[I", true)
  | 4 => ("ScoreOrchestra$Section", "mask", "I", false)
  | 5 => ("ScoreOrchestra$Section", "fatigue", "I", false)
  | 6 => ("ScoreOrchestra$Section", "resting", "I", false)
  | _ => ("ScoreOrchestra$Section", "played", "I", false)
def tyX4 : Nat → FieldType := fun k => match k with
  | 0 => .char
  | 1 => .int
  | 2 => .int
  | 3 => .array .int
  | 4 => .int
  | 5 => .int
  | 6 => .int
  | _ => .int
abbrev wsX40 : List Cond := u_ws RX4 TX4 8
theorem nmX4 : ∀ a, a < 8 → ∀ b, b < 8 → a ≠ b → (TX4 a).2.1 ≠ (TX4 b).2.1 := by decide +kernel
theorem tyX4_ok : ∀ k, k < 8 → parseFieldDescriptor (TX4 k).2.2.1 = some (tyX4 k) := by decide +kernel
abbrev cX4_init : ByteArray := prog_6_method_1_code
def yX4_init : MethodName := ⟨RX4, "<init>", "()V"⟩
abbrev cX4_begin : ByteArray := prog_6_method_2_code
def yX4_begin : MethodName := ⟨RX4, "begin", "(CII)V"⟩
abbrev cX4_copyFrom : ByteArray := prog_6_method_3_code
def yX4_copyFrom : MethodName := ⟨RX4, "copyFrom", "(LScoreOrchestra$Section;)V"⟩
abbrev cX4_hasRow : ByteArray := prog_6_method_4_code
def yX4_hasRow : MethodName := ⟨RX4, "hasRow", "(I)Z"⟩
abbrev cX4_hasColumn : ByteArray := prog_6_method_5_code
def yX4_hasColumn : MethodName := ⟨RX4, "hasColumn", "(I)Z"⟩
abbrev cX4_hasPlace : ByteArray := prog_6_method_6_code
def yX4_hasPlace : MethodName := ⟨RX4, "hasPlace", "(II)Z"⟩
abbrev cX4_noteAt : ByteArray := prog_6_method_7_code
def yX4_noteAt : MethodName := ⟨RX4, "noteAt", "(II)I"⟩
abbrev cX4_putNote : ByteArray := prog_6_method_8_code
def yX4_putNote : MethodName := ⟨RX4, "putNote", "(III)V"⟩
abbrev cX4_hasScoreOf : ByteArray := prog_6_method_9_code
def yX4_hasScoreOf : MethodName := ⟨RX4, "hasScoreOf", "(LScoreOrchestra$Section;)Z"⟩
abbrev cX4_flip : ByteArray := prog_6_method_10_code
def yX4_flip : MethodName := ⟨RX4, "flip", "()V"⟩
abbrev cX4_turn : ByteArray := prog_6_method_11_code
def yX4_turn : MethodName := ⟨RX4, "turn", "()I"⟩
abbrev cX4_canLift : ByteArray := prog_6_method_12_code
def yX4_canLift : MethodName := ⟨RX4, "canLift", "(I)Z"⟩
abbrev cX4_lift : ByteArray := prog_6_method_13_code
def yX4_lift : MethodName := ⟨RX4, "lift", "(I)I"⟩
abbrev cX4_volumeOfColumn : ByteArray := prog_6_method_14_code
def yX4_volumeOfColumn : MethodName := ⟨RX4, "volumeOfColumn", "(I)I"⟩
abbrev cX4_volumeOfRow : ByteArray := prog_6_method_15_code
def yX4_volumeOfRow : MethodName := ⟨RX4, "volumeOfRow", "(I)I"⟩
abbrev cX4_masks : ByteArray := prog_6_method_16_code
def yX4_masks : MethodName := ⟨RX4, "masks", "(I)Z"⟩
abbrev cX4_putMask : ByteArray := prog_6_method_17_code
def yX4_putMask : MethodName := ⟨RX4, "putMask", "(IZ)V"⟩
abbrev cX4_maskedColumns : ByteArray := prog_6_method_18_code
def yX4_maskedColumns : MethodName := ⟨RX4, "maskedColumns", "()I"⟩
abbrev cX4_columnIn : ByteArray := prog_6_method_19_code
def yX4_columnIn : MethodName := ⟨RX4, "columnIn", "(I)I"⟩
abbrev cX4_volumeIn : ByteArray := prog_6_method_20_code
def yX4_volumeIn : MethodName := ⟨RX4, "volumeIn", "(I)I"⟩
abbrev cX4_tire : ByteArray := prog_6_method_21_code
def yX4_tire : MethodName := ⟨RX4, "tire", "()V"⟩
def RX5 : String := "ScoreOrchestra$State"
def TX5 : u_T := fun k => match k with
  | 0 => ("ScoreOrchestra$State", "sections", "[LScoreOrchestra$Section;", true)
  | 1 => ("ScoreOrchestra$State", "count", "I", false)
  | 2 => ("ScoreOrchestra$State", "tempo", "I", false)
  | 3 => ("ScoreOrchestra$State", "limit", "I", false)
  | 4 => ("ScoreOrchestra$State", "beats", "I", false)
  | 5 => ("ScoreOrchestra$State", "breaks", "I", false)
  | 6 => ("ScoreOrchestra$State", "greatest", "I", false)
  | 7 => ("ScoreOrchestra$State", "total", "J", false)
  | 8 => ("ScoreOrchestra$State", "sounds", "[I", true)
  | _ => ("ScoreOrchestra$State", "log", "[I", true)
def tyX5 : Nat → FieldType := fun k => match k with
  | 0 => .array (.object "ScoreOrchestra$Section")
  | 1 => .int
  | 2 => .int
  | 3 => .int
  | 4 => .int
  | 5 => .int
  | 6 => .int
  | 7 => .long
  | 8 => .array .int
  | _ => .array .int
abbrev wsX50 : List Cond := u_ws RX5 TX5 10
theorem nmX5 : ∀ a, a < 10 → ∀ b, b < 10 → a ≠ b → (TX5 a).2.1 ≠ (TX5 b).2.1 := by decide +kernel
theorem tyX5_ok : ∀ k, k < 10 → parseFieldDescriptor (TX5 k).2.2.1 = some (tyX5 k) := by decide +kernel
abbrev cX5_init : ByteArray := prog_7_method_1_code
def yX5_init : MethodName := ⟨RX5, "<init>", "()V"⟩
abbrev cX5_copyFrom : ByteArray := prog_7_method_2_code
def yX5_copyFrom : MethodName := ⟨RX5, "copyFrom", "(LScoreOrchestra$State;)V"⟩
abbrev cX5_hasSection : ByteArray := prog_7_method_3_code
def yX5_hasSection : MethodName := ⟨RX5, "hasSection", "(I)Z"⟩
abbrev cX5_add : ByteArray := prog_7_method_4_code
def yX5_add : MethodName := ⟨RX5, "add", "(CII)I"⟩
abbrev cX5_drop : ByteArray := prog_7_method_5_code
def yX5_drop : MethodName := ⟨RX5, "drop", "(I)I"⟩
abbrev cX5_write : ByteArray := prog_7_method_6_code
def yX5_write : MethodName := ⟨RX5, "write", "(IIII)I"⟩
abbrev cX5_mask : ByteArray := prog_7_method_7_code
def yX5_mask : MethodName := ⟨RX5, "mask", "(IIZ)I"⟩
abbrev cX5_flip : ByteArray := prog_7_method_8_code
def yX5_flip : MethodName := ⟨RX5, "flip", "(I)I"⟩
abbrev cX5_turn : ByteArray := prog_7_method_9_code
def yX5_turn : MethodName := ⟨RX5, "turn", "(I)I"⟩
abbrev cX5_lift : ByteArray := prog_7_method_10_code
def yX5_lift : MethodName := ⟨RX5, "lift", "(II)I"⟩
abbrev cX5_changeTempo : ByteArray := prog_7_method_11_code
def yX5_changeTempo : MethodName := ⟨RX5, "changeTempo", "(I)I"⟩
abbrev cX5_changeLimit : ByteArray := prog_7_method_12_code
def yX5_changeLimit : MethodName := ⟨RX5, "changeLimit", "(I)I"⟩
abbrev cX5_play : ByteArray := prog_7_method_13_code
def yX5_play : MethodName := ⟨RX5, "play", "(I)I"⟩
abbrev cX5_playBeat : ByteArray := prog_7_method_14_code
def yX5_playBeat : MethodName := ⟨RX5, "playBeat", "()I"⟩
abbrev cX5_playSection : ByteArray := prog_7_method_15_code
def yX5_playSection : MethodName := ⟨RX5, "playSection", "(LScoreOrchestra$Section;)I"⟩
abbrev cX5_recordSounds : ByteArray := prog_7_method_16_code
def yX5_recordSounds : MethodName := ⟨RX5, "recordSounds", "(LScoreOrchestra$Section;I)V"⟩
abbrev cX5_logTotal : ByteArray := prog_7_method_17_code
def yX5_logTotal : MethodName := ⟨RX5, "logTotal", "(I)V"⟩
abbrev cX5_totalOf : ByteArray := prog_7_method_18_code
def yX5_totalOf : MethodName := ⟨RX5, "totalOf", "(I)I"⟩
abbrev cX5_soundsOf : ByteArray := prog_7_method_19_code
def yX5_soundsOf : MethodName := ⟨RX5, "soundsOf", "(CI)I"⟩
abbrev cX5_soundsOfAllKinds : ByteArray := prog_7_method_20_code
def yX5_soundsOfAllKinds : MethodName := ⟨RX5, "soundsOfAllKinds", "(I)I"⟩
def RX6 : String := "ScoreOrchestra$Text"
def TX6 : u_T := fun k => match k with
  | 0 => ("ScoreOrchestra$Text", "signs", "[C", true)
  | _ => ("ScoreOrchestra$Text", "length", "I", false)
def tyX6 : Nat → FieldType := fun k => match k with
  | 0 => .array .char
  | _ => .int
abbrev wsX60 : List Cond := u_ws RX6 TX6 2
theorem nmX6 : ∀ a, a < 2 → ∀ b, b < 2 → a ≠ b → (TX6 a).2.1 ≠ (TX6 b).2.1 := by decide +kernel
theorem tyX6_ok : ∀ k, k < 2 → parseFieldDescriptor (TX6 k).2.2.1 = some (tyX6 k) := by decide +kernel
abbrev cX6_init : ByteArray := prog_8_method_1_code
def yX6_init : MethodName := ⟨RX6, "<init>", "()V"⟩
abbrev cX6_clear : ByteArray := prog_8_method_2_code
def yX6_clear : MethodName := ⟨RX6, "clear", "()V"⟩
abbrev cX6_isFull : ByteArray := prog_8_method_3_code
def yX6_isFull : MethodName := ⟨RX6, "isFull", "()Z"⟩
abbrev cX6_append : ByteArray := prog_8_method_4_code
def yX6_append : MethodName := ⟨RX6, "append", "(C)V"⟩
abbrev cX6_has : ByteArray := prog_8_method_5_code
def yX6_has : MethodName := ⟨RX6, "has", "(I)Z"⟩
abbrev cX6_signAt : ByteArray := prog_8_method_6_code
def yX6_signAt : MethodName := ⟨RX6, "signAt", "(I)C"⟩
def RX7 : String := "ScoreOrchestra$Verb"
def TX7 : u_T := fun k => match k with
  | _ => ("", "", "", false)
def tyX7 : Nat → FieldType := fun k => match k with
  | _ => .int
abbrev wsX70 : List Cond := u_ws RX7 TX7 0
theorem nmX7 : ∀ a, a < 0 → ∀ b, b < 0 → a ≠ b → (TX7 a).2.1 ≠ (TX7 b).2.1 := by decide +kernel
theorem tyX7_ok : ∀ k, k < 0 → parseFieldDescriptor (TX7 k).2.2.1 = some (tyX7 k) := by decide +kernel
def RX8 : String := "ScoreOrchestra"
def TX8 : u_T := fun k => match k with
  | 0 => ("ScoreOrchestra", "now", "LScoreOrchestra$State;", true)
  | 1 => ("ScoreOrchestra", "sandbox", "LScoreOrchestra$State;", true)
  | 2 => ("ScoreOrchestra", "snapshot", "LScoreOrchestra$State;", true)
  | 3 => ("ScoreOrchestra", "hasSnapshot", "Z", false)
  | 4 => ("ScoreOrchestra", "history", "LScoreOrchestra$History;", true)
  | 5 => ("ScoreOrchestra", "transposed", "LScoreOrchestra$Section;", true)
  | 6 => ("ScoreOrchestra", "script", "LScoreOrchestra$Script;", true)
  | 7 => ("ScoreOrchestra", "output", "LScoreOrchestra$Text;", true)
  | 8 => ("ScoreOrchestra", "latestErrorPosition", "I", false)
  | _ => ("ScoreOrchestra", "latestFailedCommand", "I", false)
def tyX8 : Nat → FieldType := fun k => match k with
  | 0 => .object "ScoreOrchestra$State"
  | 1 => .object "ScoreOrchestra$State"
  | 2 => .object "ScoreOrchestra$State"
  | 3 => .boolean
  | 4 => .object "ScoreOrchestra$History"
  | 5 => .object "ScoreOrchestra$Section"
  | 6 => .object "ScoreOrchestra$Script"
  | 7 => .object "ScoreOrchestra$Text"
  | 8 => .int
  | _ => .int
abbrev wsX80 : List Cond := u_ws RX8 TX8 10
theorem nmX8 : ∀ a, a < 10 → ∀ b, b < 10 → a ≠ b → (TX8 a).2.1 ≠ (TX8 b).2.1 := by decide +kernel
theorem tyX8_ok : ∀ k, k < 10 → parseFieldDescriptor (TX8 k).2.2.1 = some (tyX8 k) := by decide +kernel
abbrev cX8_init : ByteArray := prog_1_method_1_code
def yX8_init : MethodName := ⟨RX8, "<init>", "()V"⟩
abbrev cX8_addSection : ByteArray := prog_1_method_2_code
def yX8_addSection : MethodName := ⟨RX8, "addSection", "(CII)I"⟩
abbrev cX8_removeSection : ByteArray := prog_1_method_3_code
def yX8_removeSection : MethodName := ⟨RX8, "removeSection", "(I)I"⟩
abbrev cX8_setNote : ByteArray := prog_1_method_4_code
def yX8_setNote : MethodName := ⟨RX8, "setNote", "(IIII)I"⟩
abbrev cX8_setMasked : ByteArray := prog_1_method_5_code
def yX8_setMasked : MethodName := ⟨RX8, "setMasked", "(IIZ)Z"⟩
abbrev cX8_transpose : ByteArray := prog_1_method_6_code
def yX8_transpose : MethodName := ⟨RX8, "transpose", "(I)I"⟩
abbrev cX8_reverse : ByteArray := prog_1_method_7_code
def yX8_reverse : MethodName := ⟨RX8, "reverse", "(I)I"⟩
abbrev cX8_raise : ByteArray := prog_1_method_8_code
def yX8_raise : MethodName := ⟨RX8, "raise", "(II)I"⟩
abbrev cX8_setTempo : ByteArray := prog_1_method_9_code
def yX8_setTempo : MethodName := ⟨RX8, "setTempo", "(I)I"⟩
abbrev cX8_setLimit : ByteArray := prog_1_method_10_code
def yX8_setLimit : MethodName := ⟨RX8, "setLimit", "(I)I"⟩
abbrev cX8_conductWave : ByteArray := prog_1_method_11_code
def yX8_conductWave : MethodName := ⟨RX8, "conductWave", "()I"⟩
abbrev cX8_conductBeats : ByteArray := prog_1_method_12_code
def yX8_conductBeats : MethodName := ⟨RX8, "conductBeats", "(I)I"⟩
abbrev cX8_beatCount : ByteArray := prog_1_method_13_code
def yX8_beatCount : MethodName := ⟨RX8, "beatCount", "()I"⟩
abbrev cX8_sectionCount : ByteArray := prog_1_method_14_code
def yX8_sectionCount : MethodName := ⟨RX8, "sectionCount", "()I"⟩
abbrev cX8_tempo : ByteArray := prog_1_method_15_code
def yX8_tempo : MethodName := ⟨RX8, "tempo", "()I"⟩
abbrev cX8_limit : ByteArray := prog_1_method_16_code
def yX8_limit : MethodName := ⟨RX8, "limit", "()I"⟩
abbrev cX8_kind : ByteArray := prog_1_method_17_code
def yX8_kind : MethodName := ⟨RX8, "kind", "(I)C"⟩
abbrev cX8_rows : ByteArray := prog_1_method_18_code
def yX8_rows : MethodName := ⟨RX8, "rows", "(I)I"⟩
abbrev cX8_columns : ByteArray := prog_1_method_19_code
def yX8_columns : MethodName := ⟨RX8, "columns", "(I)I"⟩
abbrev cX8_note : ByteArray := prog_1_method_20_code
def yX8_note : MethodName := ⟨RX8, "note", "(III)I"⟩
abbrev cX8_isMasked : ByteArray := prog_1_method_21_code
def yX8_isMasked : MethodName := ⟨RX8, "isMasked", "(II)Z"⟩
abbrev cX8_fatigue : ByteArray := prog_1_method_22_code
def yX8_fatigue : MethodName := ⟨RX8, "fatigue", "(I)I"⟩
abbrev cX8_restingBeats : ByteArray := prog_1_method_23_code
def yX8_restingBeats : MethodName := ⟨RX8, "restingBeats", "(I)I"⟩
abbrev cX8_isSymmetric : ByteArray := prog_1_method_24_code
def yX8_isSymmetric : MethodName := ⟨RX8, "isSymmetric", "(I)Z"⟩
abbrev cX8_areAlike : ByteArray := prog_1_method_25_code
def yX8_areAlike : MethodName := ⟨RX8, "areAlike", "(II)Z"⟩
abbrev cX8_noteVolume : ByteArray := prog_1_method_26_code
def yX8_noteVolume : MethodName := ⟨RX8, "noteVolume", "(CI)I"⟩
abbrev cX8_columnVolume : ByteArray := prog_1_method_27_code
def yX8_columnVolume : MethodName := ⟨RX8, "columnVolume", "(II)I"⟩
abbrev cX8_columnVolumeByTransposing : ByteArray := prog_1_method_28_code
def yX8_columnVolumeByTransposing : MethodName := ⟨RX8, "columnVolumeByTransposing", "(II)I"⟩
abbrev cX8_nextVolume : ByteArray := prog_1_method_29_code
def yX8_nextVolume : MethodName := ⟨RX8, "nextVolume", "(I)I"⟩
abbrev cX8_nextTotal : ByteArray := prog_1_method_30_code
def yX8_nextTotal : MethodName := ⟨RX8, "nextTotal", "()I"⟩
abbrev cX8_period : ByteArray := prog_1_method_31_code
def yX8_period : MethodName := ⟨RX8, "period", "()I"⟩
abbrev cX8_periodBySearch : ByteArray := prog_1_method_32_code
def yX8_periodBySearch : MethodName := ⟨RX8, "periodBySearch", "()I"⟩
abbrev cX8_beatsUntilBreak : ByteArray := prog_1_method_33_code
def yX8_beatsUntilBreak : MethodName := ⟨RX8, "beatsUntilBreak", "()I"⟩
abbrev cX8_totalWithin : ByteArray := prog_1_method_34_code
def yX8_totalWithin : MethodName := ⟨RX8, "totalWithin", "(I)I"⟩
abbrev cX8_breakCount : ByteArray := prog_1_method_35_code
def yX8_breakCount : MethodName := ⟨RX8, "breakCount", "()I"⟩
abbrev cX8_playedVolume : ByteArray := prog_1_method_36_code
def yX8_playedVolume : MethodName := ⟨RX8, "playedVolume", "(I)I"⟩
abbrev cX8_totalVolume : ByteArray := prog_1_method_37_code
def yX8_totalVolume : MethodName := ⟨RX8, "totalVolume", "()J"⟩
abbrev cX8_totalVolumeBySounds : ByteArray := prog_1_method_38_code
def yX8_totalVolumeBySounds : MethodName := ⟨RX8, "totalVolumeBySounds", "()J"⟩
abbrev cX8_soundCount : ByteArray := prog_1_method_39_code
def yX8_soundCount : MethodName := ⟨RX8, "soundCount", "(CI)I"⟩
abbrev cX8_greatestTotal : ByteArray := prog_1_method_40_code
def yX8_greatestTotal : MethodName := ⟨RX8, "greatestTotal", "()I"⟩
abbrev cX8_loggedTotal : ByteArray := prog_1_method_41_code
def yX8_loggedTotal : MethodName := ⟨RX8, "loggedTotal", "(I)I"⟩
abbrev cX8_sectionByVolume : ByteArray := prog_1_method_42_code
def yX8_sectionByVolume : MethodName := ⟨RX8, "sectionByVolume", "(I)I"⟩
abbrev cX8_noteBySounds : ByteArray := prog_1_method_43_code
def yX8_noteBySounds : MethodName := ⟨RX8, "noteBySounds", "(I)I"⟩
abbrev cX8_meanTotal : ByteArray := prog_1_method_44_code
def yX8_meanTotal : MethodName := ⟨RX8, "meanTotal", "()D"⟩
abbrev cX8_maskedShare : ByteArray := prog_1_method_45_code
def yX8_maskedShare : MethodName := ⟨RX8, "maskedShare", "(I)F"⟩
abbrev cX8_isConsistent : ByteArray := prog_1_method_46_code
def yX8_isConsistent : MethodName := ⟨RX8, "isConsistent", "()Z"⟩
abbrev cX8_renderScore : ByteArray := prog_1_method_47_code
def yX8_renderScore : MethodName := ⟨RX8, "renderScore", "(I)I"⟩
abbrev cX8_renderMask : ByteArray := prog_1_method_48_code
def yX8_renderMask : MethodName := ⟨RX8, "renderMask", "(I)I"⟩
abbrev cX8_outputAt : ByteArray := prog_1_method_49_code
def yX8_outputAt : MethodName := ⟨RX8, "outputAt", "(I)C"⟩
abbrev cX8_type : ByteArray := prog_1_method_50_code
def yX8_type : MethodName := ⟨RX8, "type", "(C)I"⟩
abbrev cX8_runScript : ByteArray := prog_1_method_51_code
def yX8_runScript : MethodName := ⟨RX8, "runScript", "()I"⟩
abbrev cX8_errorPosition : ByteArray := prog_1_method_52_code
def yX8_errorPosition : MethodName := ⟨RX8, "errorPosition", "()I"⟩
abbrev cX8_failedCommand : ByteArray := prog_1_method_53_code
def yX8_failedCommand : MethodName := ⟨RX8, "failedCommand", "()I"⟩
abbrev cX8_undo : ByteArray := prog_1_method_54_code
def yX8_undo : MethodName := ⟨RX8, "undo", "()I"⟩
abbrev cX8_save : ByteArray := prog_1_method_55_code
def yX8_save : MethodName := ⟨RX8, "save", "()I"⟩
abbrev cX8_restore : ByteArray := prog_1_method_56_code
def yX8_restore : MethodName := ⟨RX8, "restore", "()I"⟩
abbrev cX8_settled : ByteArray := prog_1_method_57_code
def yX8_settled : MethodName := ⟨RX8, "settled", "(I)I"⟩
abbrev cX8_presentSection : ByteArray := prog_1_method_58_code
def yX8_presentSection : MethodName := ⟨RX8, "presentSection", "(I)LScoreOrchestra$Section;"⟩
abbrev cX8_sectionWithColumn : ByteArray := prog_1_method_59_code
def yX8_sectionWithColumn : MethodName := ⟨RX8, "sectionWithColumn", "(II)LScoreOrchestra$Section;"⟩
abbrev cX8_isPeriod : ByteArray := prog_1_method_60_code
def yX8_isPeriod : MethodName := ⟨RX8, "isPeriod", "(I)Z"⟩
abbrev cX8_soundsVolume : ByteArray := prog_1_method_61_code
def yX8_soundsVolume : MethodName := ⟨RX8, "soundsVolume", "(C)J"⟩
abbrev cX8_columnVolumesAgree : ByteArray := prog_1_method_62_code
def yX8_columnVolumesAgree : MethodName := ⟨RX8, "columnVolumesAgree", "()Z"⟩
abbrev cX8_sectionRank : ByteArray := prog_1_method_63_code
def yX8_sectionRank : MethodName := ⟨RX8, "sectionRank", "(I)I"⟩
abbrev cX8_precedes : ByteArray := prog_1_method_64_code
def yX8_precedes : MethodName := ⟨RX8, "precedes", "(II)Z"⟩
abbrev cX8_noteRank : ByteArray := prog_1_method_65_code
def yX8_noteRank : MethodName := ⟨RX8, "noteRank", "(I)I"⟩
abbrev cX8_perform : ByteArray := prog_1_method_66_code
def yX8_perform : MethodName := ⟨RX8, "perform", "(LScoreOrchestra$Command;)I"⟩
abbrev cX8_kindIndex : ByteArray := prog_1_method_67_code
def yX8_kindIndex : MethodName := ⟨RX8, "kindIndex", "(C)I"⟩
abbrev cX8_volumeOf : ByteArray := prog_1_method_68_code
def yX8_volumeOf : MethodName := ⟨RX8, "volumeOf", "(CI)I"⟩
abbrev cX8_isSide : ByteArray := prog_1_method_69_code
def yX8_isSide : MethodName := ⟨RX8, "isSide", "(I)Z"⟩
abbrev cX8_isMaskColumn : ByteArray := prog_1_method_70_code
def yX8_isMaskColumn : MethodName := ⟨RX8, "isMaskColumn", "(I)Z"⟩
abbrev cX8_isBeats : ByteArray := prog_1_method_71_code
def yX8_isBeats : MethodName := ⟨RX8, "isBeats", "(I)Z"⟩
abbrev cX8_digitSign : ByteArray := prog_1_method_72_code
def yX8_digitSign : MethodName := ⟨RX8, "digitSign", "(I)C"⟩
abbrev cX8_leastCommonMultiple : ByteArray := prog_1_method_73_code
def yX8_leastCommonMultiple : MethodName := ⟨RX8, "leastCommonMultiple", "(II)I"⟩
abbrev cX8_greatestCommonDivisor : ByteArray := prog_1_method_74_code
def yX8_greatestCommonDivisor : MethodName := ⟨RX8, "greatestCommonDivisor", "(II)I"⟩
def RX9 : String := "ScoreOrchestraModel"
def TX9 : u_T := fun k => match k with
  | 0 => ("ScoreOrchestraModel", "thrown", "I", false)
  | 1 => ("ScoreOrchestraModel", "w", "[I", true)
  | 2 => ("ScoreOrchestraModel", "undos", "[I", true)
  | 3 => ("ScoreOrchestraModel", "savedRow", "[I", true)
  | 4 => ("ScoreOrchestraModel", "before", "[I", true)
  | 5 => ("ScoreOrchestraModel", "present", "[I", true)
  | 6 => ("ScoreOrchestraModel", "changes", "I", false)
  | 7 => ("ScoreOrchestraModel", "firstChange", "I", false)
  | 8 => ("ScoreOrchestraModel", "isSaved", "Z", false)
  | 9 => ("ScoreOrchestraModel", "line", "[C", true)
  | 10 => ("ScoreOrchestraModel", "lineLength", "I", false)
  | 11 => ("ScoreOrchestraModel", "text", "[C", true)
  | 12 => ("ScoreOrchestraModel", "textLength", "I", false)
  | 13 => ("ScoreOrchestraModel", "textAt", "I", false)
  | 14 => ("ScoreOrchestraModel", "errorAt", "I", false)
  | 15 => ("ScoreOrchestraModel", "failedAt", "I", false)
  | 16 => ("ScoreOrchestraModel", "numbers", "[I", true)
  | 17 => ("ScoreOrchestraModel", "sort", "I", false)
  | _ => ("ScoreOrchestraModel", "done", "I", false)
def tyX9 : Nat → FieldType := fun k => match k with
  | 0 => .int
  | 1 => .array .int
  | 2 => .array .int
  | 3 => .array .int
  | 4 => .array .int
  | 5 => .array .int
  | 6 => .int
  | 7 => .int
  | 8 => .boolean
  | 9 => .array .char
  | 10 => .int
  | 11 => .array .char
  | 12 => .int
  | 13 => .int
  | 14 => .int
  | 15 => .int
  | 16 => .array .int
  | 17 => .int
  | _ => .int
abbrev wsX90 : List Cond := u_ws RX9 TX9 19
theorem nmX9 : ∀ a, a < 19 → ∀ b, b < 19 → a ≠ b → (TX9 a).2.1 ≠ (TX9 b).2.1 := by decide +kernel
theorem tyX9_ok : ∀ k, k < 19 → parseFieldDescriptor (TX9 k).2.2.1 = some (tyX9 k) := by decide +kernel
abbrev cX9_thrown : ByteArray := prog_11_method_1_code
def yX9_thrown : MethodName := ⟨RX9, "thrown", "()I"⟩
abbrev cX9_fails : ByteArray := prog_11_method_2_code
def yX9_fails : MethodName := ⟨RX9, "fails", "(I)I"⟩
abbrev cX9_isBetween : ByteArray := prog_11_method_3_code
def yX9_isBetween : MethodName := ⟨RX9, "isBetween", "(III)Z"⟩
abbrev cX9_init : ByteArray := prog_11_method_4_code
def yX9_init : MethodName := ⟨RX9, "<init>", "()V"⟩
abbrev cX9_copies : ByteArray := prog_11_method_5_code
def yX9_copies : MethodName := ⟨RX9, "copies", "()V"⟩
abbrev cX9_goesBack : ByteArray := prog_11_method_6_code
def yX9_goesBack : MethodName := ⟨RX9, "goesBack", "()V"⟩
abbrev cX9_keeps : ByteArray := prog_11_method_7_code
def yX9_keeps : MethodName := ⟨RX9, "keeps", "()V"⟩
abbrev cX9_remembers : ByteArray := prog_11_method_8_code
def yX9_remembers : MethodName := ⟨RX9, "remembers", "()V"⟩
abbrev cX9_isSection : ByteArray := prog_11_method_9_code
def yX9_isSection : MethodName := ⟨RX9, "isSection", "(I)Z"⟩
abbrev cX9_of : ByteArray := prog_11_method_10_code
def yX9_of : MethodName := ⟨RX9, "of", "(II)I"⟩
abbrev cX9_puts : ByteArray := prog_11_method_11_code
def yX9_puts : MethodName := ⟨RX9, "puts", "(III)V"⟩
abbrev cX9_noteAt : ByteArray := prog_11_method_12_code
def yX9_noteAt : MethodName := ⟨RX9, "noteAt", "(III)I"⟩
abbrev cX9_putsNote : ByteArray := prog_11_method_13_code
def yX9_putsNote : MethodName := ⟨RX9, "putsNote", "(IIII)V"⟩
abbrev cX9_isCell : ByteArray := prog_11_method_14_code
def yX9_isCell : MethodName := ⟨RX9, "isCell", "(III)Z"⟩
abbrev cX9_isMaskedAt : ByteArray := prog_11_method_15_code
def yX9_isMaskedAt : MethodName := ⟨RX9, "isMaskedAt", "(II)Z"⟩
abbrev cX9_kindOf : ByteArray := prog_11_method_16_code
def yX9_kindOf : MethodName := ⟨RX9, "kindOf", "(I)I"⟩
abbrev cX9_letterOf : ByteArray := prog_11_method_17_code
def yX9_letterOf : MethodName := ⟨RX9, "letterOf", "(I)C"⟩
abbrev cX9_volumeOf : ByteArray := prog_11_method_18_code
def yX9_volumeOf : MethodName := ⟨RX9, "volumeOf", "(II)I"⟩
abbrev cX9_volumeOfColumn : ByteArray := prog_11_method_19_code
def yX9_volumeOfColumn : MethodName := ⟨RX9, "volumeOfColumn", "(II)I"⟩
abbrev cX9_notAdd : ByteArray := prog_11_method_20_code
def yX9_notAdd : MethodName := ⟨RX9, "notAdd", "(III)I"⟩
abbrev cX9_addsSection : ByteArray := prog_11_method_21_code
def yX9_addsSection : MethodName := ⟨RX9, "addsSection", "(III)I"⟩
abbrev cX9_addSection : ByteArray := prog_11_method_22_code
def yX9_addSection : MethodName := ⟨RX9, "addSection", "(CII)I"⟩
abbrev cX9_notSection : ByteArray := prog_11_method_23_code
def yX9_notSection : MethodName := ⟨RX9, "notSection", "(I)I"⟩
abbrev cX9_removesSection : ByteArray := prog_11_method_24_code
def yX9_removesSection : MethodName := ⟨RX9, "removesSection", "(I)I"⟩
abbrev cX9_removeSection : ByteArray := prog_11_method_25_code
def yX9_removeSection : MethodName := ⟨RX9, "removeSection", "(I)I"⟩
abbrev cX9_notNote : ByteArray := prog_11_method_26_code
def yX9_notNote : MethodName := ⟨RX9, "notNote", "(IIII)I"⟩
abbrev cX9_setsNote : ByteArray := prog_11_method_27_code
def yX9_setsNote : MethodName := ⟨RX9, "setsNote", "(IIII)I"⟩
abbrev cX9_setNote : ByteArray := prog_11_method_28_code
def yX9_setNote : MethodName := ⟨RX9, "setNote", "(IIII)I"⟩
abbrev cX9_notMask : ByteArray := prog_11_method_29_code
def yX9_notMask : MethodName := ⟨RX9, "notMask", "(II)I"⟩
abbrev cX9_setsMasked : ByteArray := prog_11_method_30_code
def yX9_setsMasked : MethodName := ⟨RX9, "setsMasked", "(III)I"⟩
abbrev cX9_setMasked : ByteArray := prog_11_method_31_code
def yX9_setMasked : MethodName := ⟨RX9, "setMasked", "(IIZ)Z"⟩
abbrev cX9_transposes : ByteArray := prog_11_method_32_code
def yX9_transposes : MethodName := ⟨RX9, "transposes", "(I)I"⟩
abbrev cX9_transpose : ByteArray := prog_11_method_33_code
def yX9_transpose : MethodName := ⟨RX9, "transpose", "(I)I"⟩
abbrev cX9_reverses : ByteArray := prog_11_method_34_code
def yX9_reverses : MethodName := ⟨RX9, "reverses", "(I)I"⟩
abbrev cX9_reverse : ByteArray := prog_11_method_35_code
def yX9_reverse : MethodName := ⟨RX9, "reverse", "(I)I"⟩
abbrev cX9_notRaise : ByteArray := prog_11_method_36_code
def yX9_notRaise : MethodName := ⟨RX9, "notRaise", "(II)I"⟩
abbrev cX9_raises : ByteArray := prog_11_method_37_code
def yX9_raises : MethodName := ⟨RX9, "raises", "(II)I"⟩
abbrev cX9_raise : ByteArray := prog_11_method_38_code
def yX9_raise : MethodName := ⟨RX9, "raise", "(II)I"⟩
abbrev cX9_notTempo : ByteArray := prog_11_method_39_code
def yX9_notTempo : MethodName := ⟨RX9, "notTempo", "(I)I"⟩
abbrev cX9_sets : ByteArray := prog_11_method_40_code
def yX9_sets : MethodName := ⟨RX9, "sets", "(II)I"⟩
abbrev cX9_setTempo : ByteArray := prog_11_method_41_code
def yX9_setTempo : MethodName := ⟨RX9, "setTempo", "(I)I"⟩
abbrev cX9_notLimit : ByteArray := prog_11_method_42_code
def yX9_notLimit : MethodName := ⟨RX9, "notLimit", "(I)I"⟩
abbrev cX9_setLimit : ByteArray := prog_11_method_43_code
def yX9_setLimit : MethodName := ⟨RX9, "setLimit", "(I)I"⟩
abbrev cX9_columnNow : ByteArray := prog_11_method_44_code
def yX9_columnNow : MethodName := ⟨RX9, "columnNow", "(I)I"⟩
abbrev cX9_plays : ByteArray := prog_11_method_45_code
def yX9_plays : MethodName := ⟨RX9, "plays", "(I)Z"⟩
abbrev cX9_volumeNow : ByteArray := prog_11_method_46_code
def yX9_volumeNow : MethodName := ⟨RX9, "volumeNow", "(I)I"⟩
abbrev cX9_sounds : ByteArray := prog_11_method_47_code
def yX9_sounds : MethodName := ⟨RX9, "sounds", "(II)V"⟩
abbrev cX9_tires : ByteArray := prog_11_method_48_code
def yX9_tires : MethodName := ⟨RX9, "tires", "(I)V"⟩
abbrev cX9_logs : ByteArray := prog_11_method_49_code
def yX9_logs : MethodName := ⟨RX9, "logs", "(I)V"⟩
abbrev cX9_beats : ByteArray := prog_11_method_50_code
def yX9_beats : MethodName := ⟨RX9, "beats", "()I"⟩
abbrev cX9_beatsTimes : ByteArray := prog_11_method_51_code
def yX9_beatsTimes : MethodName := ⟨RX9, "beatsTimes", "(I)I"⟩
abbrev cX9_conductWave : ByteArray := prog_11_method_52_code
def yX9_conductWave : MethodName := ⟨RX9, "conductWave", "()I"⟩
abbrev cX9_notBeats : ByteArray := prog_11_method_53_code
def yX9_notBeats : MethodName := ⟨RX9, "notBeats", "(I)I"⟩
abbrev cX9_conductBeats : ByteArray := prog_11_method_54_code
def yX9_conductBeats : MethodName := ⟨RX9, "conductBeats", "(I)I"⟩
abbrev cX9_asks : ByteArray := prog_11_method_55_code
def yX9_asks : MethodName := ⟨RX9, "asks", "(I)I"⟩
abbrev cX9_beatCount : ByteArray := prog_11_method_56_code
def yX9_beatCount : MethodName := ⟨RX9, "beatCount", "()I"⟩
abbrev cX9_sectionCount : ByteArray := prog_11_method_57_code
def yX9_sectionCount : MethodName := ⟨RX9, "sectionCount", "()I"⟩
abbrev cX9_tempo : ByteArray := prog_11_method_58_code
def yX9_tempo : MethodName := ⟨RX9, "tempo", "()I"⟩
abbrev cX9_limit : ByteArray := prog_11_method_59_code
def yX9_limit : MethodName := ⟨RX9, "limit", "()I"⟩
abbrev cX9_asksSection : ByteArray := prog_11_method_60_code
def yX9_asksSection : MethodName := ⟨RX9, "asksSection", "(II)I"⟩
abbrev cX9_kind : ByteArray := prog_11_method_61_code
def yX9_kind : MethodName := ⟨RX9, "kind", "(I)C"⟩
abbrev cX9_rows : ByteArray := prog_11_method_62_code
def yX9_rows : MethodName := ⟨RX9, "rows", "(I)I"⟩
abbrev cX9_columns : ByteArray := prog_11_method_63_code
def yX9_columns : MethodName := ⟨RX9, "columns", "(I)I"⟩
abbrev cX9_note : ByteArray := prog_11_method_64_code
def yX9_note : MethodName := ⟨RX9, "note", "(III)I"⟩
abbrev cX9_isMasked : ByteArray := prog_11_method_65_code
def yX9_isMasked : MethodName := ⟨RX9, "isMasked", "(II)Z"⟩
abbrev cX9_fatigue : ByteArray := prog_11_method_66_code
def yX9_fatigue : MethodName := ⟨RX9, "fatigue", "(I)I"⟩
abbrev cX9_restingBeats : ByteArray := prog_11_method_67_code
def yX9_restingBeats : MethodName := ⟨RX9, "restingBeats", "(I)I"⟩
abbrev cX9_isSymmetric : ByteArray := prog_11_method_68_code
def yX9_isSymmetric : MethodName := ⟨RX9, "isSymmetric", "(I)Z"⟩
abbrev cX9_areAlike : ByteArray := prog_11_method_69_code
def yX9_areAlike : MethodName := ⟨RX9, "areAlike", "(II)Z"⟩
abbrev cX9_noteVolume : ByteArray := prog_11_method_70_code
def yX9_noteVolume : MethodName := ⟨RX9, "noteVolume", "(CI)I"⟩
abbrev cX9_columnVolume : ByteArray := prog_11_method_71_code
def yX9_columnVolume : MethodName := ⟨RX9, "columnVolume", "(II)I"⟩
abbrev cX9_columnVolumeByTransposing : ByteArray := prog_11_method_72_code
def yX9_columnVolumeByTransposing : MethodName := ⟨RX9, "columnVolumeByTransposing", "(II)I"⟩
abbrev cX9_nextVolume : ByteArray := prog_11_method_73_code
def yX9_nextVolume : MethodName := ⟨RX9, "nextVolume", "(I)I"⟩
abbrev cX9_nextTotal : ByteArray := prog_11_method_74_code
def yX9_nextTotal : MethodName := ⟨RX9, "nextTotal", "()I"⟩
abbrev cX9_isPeriod : ByteArray := prog_11_method_75_code
def yX9_isPeriod : MethodName := ⟨RX9, "isPeriod", "(I)Z"⟩
abbrev cX9_period : ByteArray := prog_11_method_76_code
def yX9_period : MethodName := ⟨RX9, "period", "()I"⟩
abbrev cX9_periodBySearch : ByteArray := prog_11_method_77_code
def yX9_periodBySearch : MethodName := ⟨RX9, "periodBySearch", "()I"⟩
abbrev cX9_looksAhead : ByteArray := prog_11_method_78_code
def yX9_looksAhead : MethodName := ⟨RX9, "looksAhead", "()V"⟩
abbrev cX9_looksBack : ByteArray := prog_11_method_79_code
def yX9_looksBack : MethodName := ⟨RX9, "looksBack", "()V"⟩
abbrev cX9_beatsUntilBreak : ByteArray := prog_11_method_80_code
def yX9_beatsUntilBreak : MethodName := ⟨RX9, "beatsUntilBreak", "()I"⟩
abbrev cX9_totalWithin : ByteArray := prog_11_method_81_code
def yX9_totalWithin : MethodName := ⟨RX9, "totalWithin", "(I)I"⟩
abbrev cX9_breakCount : ByteArray := prog_11_method_82_code
def yX9_breakCount : MethodName := ⟨RX9, "breakCount", "()I"⟩
abbrev cX9_playedVolume : ByteArray := prog_11_method_83_code
def yX9_playedVolume : MethodName := ⟨RX9, "playedVolume", "(I)I"⟩
abbrev cX9_totalVolume : ByteArray := prog_11_method_84_code
def yX9_totalVolume : MethodName := ⟨RX9, "totalVolume", "()J"⟩
abbrev cX9_soundsOf : ByteArray := prog_11_method_85_code
def yX9_soundsOf : MethodName := ⟨RX9, "soundsOf", "(II)I"⟩
abbrev cX9_volumeBySounds : ByteArray := prog_11_method_86_code
def yX9_volumeBySounds : MethodName := ⟨RX9, "volumeBySounds", "()I"⟩
abbrev cX9_totalVolumeBySounds : ByteArray := prog_11_method_87_code
def yX9_totalVolumeBySounds : MethodName := ⟨RX9, "totalVolumeBySounds", "()J"⟩
abbrev cX9_soundCount : ByteArray := prog_11_method_88_code
def yX9_soundCount : MethodName := ⟨RX9, "soundCount", "(CI)I"⟩
abbrev cX9_greatestTotal : ByteArray := prog_11_method_89_code
def yX9_greatestTotal : MethodName := ⟨RX9, "greatestTotal", "()I"⟩
abbrev cX9_loggedTotal : ByteArray := prog_11_method_90_code
def yX9_loggedTotal : MethodName := ⟨RX9, "loggedTotal", "(I)I"⟩
abbrev cX9_isAhead : ByteArray := prog_11_method_91_code
def yX9_isAhead : MethodName := ⟨RX9, "isAhead", "(II)Z"⟩
abbrev cX9_sectionByVolume : ByteArray := prog_11_method_92_code
def yX9_sectionByVolume : MethodName := ⟨RX9, "sectionByVolume", "(I)I"⟩
abbrev cX9_soundsAll : ByteArray := prog_11_method_93_code
def yX9_soundsAll : MethodName := ⟨RX9, "soundsAll", "(I)I"⟩
abbrev cX9_noteBySounds : ByteArray := prog_11_method_94_code
def yX9_noteBySounds : MethodName := ⟨RX9, "noteBySounds", "(I)I"⟩
abbrev cX9_meanTotal : ByteArray := prog_11_method_95_code
def yX9_meanTotal : MethodName := ⟨RX9, "meanTotal", "()D"⟩
abbrev cX9_maskedShare : ByteArray := prog_11_method_96_code
def yX9_maskedShare : MethodName := ⟨RX9, "maskedShare", "(I)F"⟩
abbrev cX9_isConsistent : ByteArray := prog_11_method_97_code
def yX9_isConsistent : MethodName := ⟨RX9, "isConsistent", "()Z"⟩
abbrev cX9_writes : ByteArray := prog_11_method_98_code
def yX9_writes : MethodName := ⟨RX9, "writes", "(I)V"⟩
abbrev cX9_renderScore : ByteArray := prog_11_method_99_code
def yX9_renderScore : MethodName := ⟨RX9, "renderScore", "(I)I"⟩
abbrev cX9_renderMask : ByteArray := prog_11_method_100_code
def yX9_renderMask : MethodName := ⟨RX9, "renderMask", "(I)I"⟩
abbrev cX9_outputAt : ByteArray := prog_11_method_101_code
def yX9_outputAt : MethodName := ⟨RX9, "outputAt", "(I)C"⟩
abbrev cX9_type : ByteArray := prog_11_method_102_code
def yX9_type : MethodName := ⟨RX9, "type", "(C)I"⟩
abbrev cX9_nextChar : ByteArray := prog_11_method_103_code
def yX9_nextChar : MethodName := ⟨RX9, "nextChar", "()I"⟩
abbrev cX9_reads : ByteArray := prog_11_method_104_code
def yX9_reads : MethodName := ⟨RX9, "reads", "(I)Z"⟩
abbrev cX9_readsDigit : ByteArray := prog_11_method_105_code
def yX9_readsDigit : MethodName := ⟨RX9, "readsDigit", "(I)Z"⟩
abbrev cX9_readsNumber : ByteArray := prog_11_method_106_code
def yX9_readsNumber : MethodName := ⟨RX9, "readsNumber", "(I)Z"⟩
abbrev cX9_readsSign : ByteArray := prog_11_method_107_code
def yX9_readsSign : MethodName := ⟨RX9, "readsSign", "(I)Z"⟩
abbrev cX9_readsAdd : ByteArray := prog_11_method_108_code
def yX9_readsAdd : MethodName := ⟨RX9, "readsAdd", "()Z"⟩
abbrev cX9_readsNote : ByteArray := prog_11_method_109_code
def yX9_readsNote : MethodName := ⟨RX9, "readsNote", "()Z"⟩
abbrev cX9_readsMask : ByteArray := prog_11_method_110_code
def yX9_readsMask : MethodName := ⟨RX9, "readsMask", "()Z"⟩
abbrev cX9_readsRaise : ByteArray := prog_11_method_111_code
def yX9_readsRaise : MethodName := ⟨RX9, "readsRaise", "()Z"⟩
abbrev cX9_readsT : ByteArray := prog_11_method_112_code
def yX9_readsT : MethodName := ⟨RX9, "readsT", "()Z"⟩
abbrev cX9_readsBeat : ByteArray := prog_11_method_113_code
def yX9_readsBeat : MethodName := ⟨RX9, "readsBeat", "()Z"⟩
abbrev cX9_readsCommand : ByteArray := prog_11_method_114_code
def yX9_readsCommand : MethodName := ⟨RX9, "readsCommand", "()Z"⟩
abbrev cX9_readsAll : ByteArray := prog_11_method_115_code
def yX9_readsAll : MethodName := ⟨RX9, "readsAll", "()Z"⟩
abbrev cX9_notNow : ByteArray := prog_11_method_116_code
def yX9_notNow : MethodName := ⟨RX9, "notNow", "()I"⟩
abbrev cX9_doesNow : ByteArray := prog_11_method_117_code
def yX9_doesNow : MethodName := ⟨RX9, "doesNow", "()I"⟩
abbrev cX9_doesAll : ByteArray := prog_11_method_118_code
def yX9_doesAll : MethodName := ⟨RX9, "doesAll", "()Z"⟩
abbrev cX9_runScript : ByteArray := prog_11_method_119_code
def yX9_runScript : MethodName := ⟨RX9, "runScript", "()I"⟩
abbrev cX9_errorPosition : ByteArray := prog_11_method_120_code
def yX9_errorPosition : MethodName := ⟨RX9, "errorPosition", "()I"⟩
abbrev cX9_failedCommand : ByteArray := prog_11_method_121_code
def yX9_failedCommand : MethodName := ⟨RX9, "failedCommand", "()I"⟩
abbrev cX9_undo : ByteArray := prog_11_method_122_code
def yX9_undo : MethodName := ⟨RX9, "undo", "()I"⟩
abbrev cX9_save : ByteArray := prog_11_method_123_code
def yX9_save : MethodName := ⟨RX9, "save", "()I"⟩
abbrev cX9_restore : ByteArray := prog_11_method_124_code
def yX9_restore : MethodName := ⟨RX9, "restore", "()I"⟩
def RJx145de : String := "java/io/Serializable"
def TJx145de : u_T := fun k => match k with
  | _ => ("", "", "", false)
def tyJx145de : Nat → FieldType := fun k => match k with
  | _ => .int
abbrev wsJx145de0 : List Cond := u_ws RJx145de TJx145de 0
theorem nmJx145de : ∀ a, a < 0 → ∀ b, b < 0 → a ≠ b → (TJx145de a).2.1 ≠ (TJx145de b).2.1 := by decide +kernel
theorem tyJx145de_ok : ∀ k, k < 0 → parseFieldDescriptor (TJx145de k).2.2.1 = some (tyJx145de k) := by decide +kernel
def RJx00060 : String := "java/lang/ArrayIndexOutOfBoundsException"
def TJx00060 : u_T := fun k => match k with
  | 0 => ("java/lang/Throwable", "backtrace", "Ljava/lang/Object;", false)
  | 1 => ("java/lang/Throwable", "detailMessage", "Ljava/lang/String;", false)
  | 2 => ("java/lang/Throwable", "cause", "Ljava/lang/Throwable;", false)
  | 3 => ("java/lang/Throwable", "stackTrace", "[Ljava/lang/StackTraceElement;", false)
  | 4 => ("java/lang/Throwable", "depth", "I", false)
  | _ => ("java/lang/Throwable", "suppressedExceptions", "Ljava/util/List;", false)
def tyJx00060 : Nat → FieldType := fun k => match k with
  | 0 => .object "java/lang/Object"
  | 1 => .object "java/lang/String"
  | 2 => .object "java/lang/Throwable"
  | 3 => .array (.object "java/lang/StackTraceElement")
  | 4 => .int
  | _ => .object "java/util/List"
abbrev wsJx000600 : List Cond := u_ws RJx00060 TJx00060 6
theorem nmJx00060 : ∀ a, a < 6 → ∀ b, b < 6 → a ≠ b → (TJx00060 a).2.1 ≠ (TJx00060 b).2.1 := by decide +kernel
theorem tyJx00060_ok : ∀ k, k < 6 → parseFieldDescriptor (TJx00060 k).2.2.1 = some (tyJx00060 k) := by decide +kernel
abbrev cJx00060_init_a7421 : ByteArray := prog_14_method_2_code
def yJx00060_init_a7421 : MethodName := ⟨RJx00060, "<init>", "(Ljava/lang/String;)V"⟩
def RJx9f9b0 : String := "java/lang/CharSequence"
def TJx9f9b0 : u_T := fun k => match k with
  | _ => ("", "", "", false)
def tyJx9f9b0 : Nat → FieldType := fun k => match k with
  | _ => .int
abbrev wsJx9f9b00 : List Cond := u_ws RJx9f9b0 TJx9f9b0 0
theorem nmJx9f9b0 : ∀ a, a < 0 → ∀ b, b < 0 → a ≠ b → (TJx9f9b0 a).2.1 ≠ (TJx9f9b0 b).2.1 := by decide +kernel
theorem tyJx9f9b0_ok : ∀ k, k < 0 → parseFieldDescriptor (TJx9f9b0 k).2.2.1 = some (tyJx9f9b0 k) := by decide +kernel
def RJxb160c : String := "java/lang/Comparable"
def TJxb160c : u_T := fun k => match k with
  | _ => ("", "", "", false)
def tyJxb160c : Nat → FieldType := fun k => match k with
  | _ => .int
abbrev wsJxb160c0 : List Cond := u_ws RJxb160c TJxb160c 0
theorem nmJxb160c : ∀ a, a < 0 → ∀ b, b < 0 → a ≠ b → (TJxb160c a).2.1 ≠ (TJxb160c b).2.1 := by decide +kernel
theorem tyJxb160c_ok : ∀ k, k < 0 → parseFieldDescriptor (TJxb160c k).2.2.1 = some (tyJxb160c k) := by decide +kernel
def RJx29ce0 : String := "java/lang/Enum"
def TJx29ce0 : u_T := fun k => match k with
  | _ => ("", "", "", false)
def tyJx29ce0 : Nat → FieldType := fun k => match k with
  | _ => .int
abbrev wsJx29ce00 : List Cond := u_ws RJx29ce0 TJx29ce0 0
theorem nmJx29ce0 : ∀ a, a < 0 → ∀ b, b < 0 → a ≠ b → (TJx29ce0 a).2.1 ≠ (TJx29ce0 b).2.1 := by decide +kernel
theorem tyJx29ce0_ok : ∀ k, k < 0 → parseFieldDescriptor (TJx29ce0 k).2.2.1 = some (tyJx29ce0 k) := by decide +kernel
abbrev cJx29ce0_ordinal_8abf5 : ByteArray := prog_17_method_2_code
def yJx29ce0_ordinal_8abf5 : MethodName := ⟨RJx29ce0, "ordinal", "()I"⟩
def RJ9 : String := "java/lang/Math"
def TJ9 : u_T := fun k => match k with
  | _ => ("", "", "", false)
def tyJ9 : Nat → FieldType := fun k => match k with
  | _ => .int
abbrev wsJ90 : List Cond := u_ws RJ9 TJ9 0
theorem nmJ9 : ∀ a, a < 0 → ∀ b, b < 0 → a ≠ b → (TJ9 a).2.1 ≠ (TJ9 b).2.1 := by decide +kernel
theorem tyJ9_ok : ∀ k, k < 0 → parseFieldDescriptor (TJ9 k).2.2.1 = some (tyJ9 k) := by decide +kernel
abbrev cJ9_max_7cf53 : ByteArray := prog_22_method_65_code
def yJ9_max_7cf53 : MethodName := ⟨RJ9, "max", "(II)I"⟩
abbrev cJ9_min_7cf53 : ByteArray := prog_22_method_69_code
def yJ9_min_7cf53 : MethodName := ⟨RJ9, "min", "(II)I"⟩
def RJ0 : String := "java/lang/String"
def TJ0 : u_T := fun k => match k with
  | 0 => ("java/lang/String", "value", "[B", true)
  | _ => ("java/lang/String", "coder", "B", true)
def tyJ0 : Nat → FieldType := fun k => match k with
  | 0 => .array .byte
  | _ => .byte
abbrev wsJ00 : List Cond := u_ws RJ0 TJ0 2
theorem nmJ0 : ∀ a, a < 2 → ∀ b, b < 2 → a ≠ b → (TJ0 a).2.1 ≠ (TJ0 b).2.1 := by decide +kernel
theorem tyJ0_ok : ∀ k, k < 2 → parseFieldDescriptor (TJ0 k).2.2.1 = some (tyJ0 k) := by decide +kernel
abbrev cJ0_length_8abf5 : ByteArray := prog_24_method_54_code
def yJ0_length_8abf5 : MethodName := ⟨RJ0, "length", "()I"⟩
abbrev cJ0_charAt_5068e : ByteArray := prog_24_method_56_code
def yJ0_charAt_5068e : MethodName := ⟨RJ0, "charAt", "(I)C"⟩
abbrev cJ0_coder_7d493 : ByteArray := prog_24_method_152_code
def yJ0_coder_7d493 : MethodName := ⟨RJ0, "coder", "()B"⟩
abbrev cJ0_isLatin1_aae02 : ByteArray := prog_24_method_154_code
def yJ0_isLatin1_aae02 : MethodName := ⟨RJ0, "isLatin1", "()Z"⟩
abbrev cJ0_checkIndex_df160 : ByteArray := prog_24_method_155_code
def yJ0_checkIndex_df160 : MethodName := ⟨RJ0, "checkIndex", "(II)V"⟩
def RJ1 : String := "java/lang/StringLatin1"
def TJ1 : u_T := fun k => match k with
  | _ => ("", "", "", false)
def tyJ1 : Nat → FieldType := fun k => match k with
  | _ => .int
abbrev wsJ10 : List Cond := u_ws RJ1 TJ1 0
theorem nmJ1 : ∀ a, a < 0 → ∀ b, b < 0 → a ≠ b → (TJ1 a).2.1 ≠ (TJ1 b).2.1 := by decide +kernel
theorem tyJ1_ok : ∀ k, k < 0 → parseFieldDescriptor (TJ1 k).2.2.1 = some (tyJ1 k) := by decide +kernel
abbrev cJ1_charAt_3b067 : ByteArray := prog_25_method_2_code
def yJ1_charAt_3b067 : MethodName := ⟨RJ1, "charAt", "([BI)C"⟩
def RJ2 : String := "java/lang/StringUTF16"
def TJ2 : u_T := fun k => match k with
  | _ => ("", "", "", false)
def tyJ2 : Nat → FieldType := fun k => match k with
  | _ => .int
abbrev wsJ20 : List Cond := u_ws RJ2 TJ2 0
theorem nmJ2 : ∀ a, a < 0 → ∀ b, b < 0 → a ≠ b → (TJ2 a).2.1 ≠ (TJ2 b).2.1 := by decide +kernel
theorem tyJ2_ok : ∀ k, k < 0 → parseFieldDescriptor (TJ2 k).2.2.1 = some (tyJ2 k) := by decide +kernel
abbrev cJ2_getChar_3b067 : ByteArray := prog_26_method_5_code
def yJ2_getChar_3b067 : MethodName := ⟨RJ2, "getChar", "([BI)C"⟩
abbrev cJ2_length_9d52b : ByteArray := prog_26_method_6_code
def yJ2_length_9d52b : MethodName := ⟨RJ2, "length", "([B)I"⟩
abbrev cJ2_charAt_3b067 : ByteArray := prog_26_method_83_code
def yJ2_charAt_3b067 : MethodName := ⟨RJ2, "charAt", "([BI)C"⟩
abbrev cJ2_checkIndex_2214a : ByteArray := prog_26_method_91_code
def yJ2_checkIndex_2214a : MethodName := ⟨RJ2, "checkIndex", "(I[B)V"⟩
def RJ10 : String := "java/lang/System"
def TJ10 : u_T := fun k => match k with
  | _ => ("", "", "", false)
def tyJ10 : Nat → FieldType := fun k => match k with
  | _ => .int
abbrev wsJ100 : List Cond := u_ws RJ10 TJ10 0
theorem nmJ10 : ∀ a, a < 0 → ∀ b, b < 0 → a ≠ b → (TJ10 a).2.1 ≠ (TJ10 b).2.1 := by decide +kernel
theorem tyJ10_ok : ∀ k, k < 0 → parseFieldDescriptor (TJ10 k).2.2.1 = some (tyJ10 k) := by decide +kernel
def RJxfd54e : String := "java/lang/constant/Constable"
def TJxfd54e : u_T := fun k => match k with
  | _ => ("", "", "", false)
def tyJxfd54e : Nat → FieldType := fun k => match k with
  | _ => .int
abbrev wsJxfd54e0 : List Cond := u_ws RJxfd54e TJxfd54e 0
theorem nmJxfd54e : ∀ a, a < 0 → ∀ b, b < 0 → a ≠ b → (TJxfd54e a).2.1 ≠ (TJxfd54e b).2.1 := by decide +kernel
theorem tyJxfd54e_ok : ∀ k, k < 0 → parseFieldDescriptor (TJxfd54e k).2.2.1 = some (tyJxfd54e k) := by decide +kernel
def RJx3cf43 : String := "java/lang/constant/ConstantDesc"
def TJx3cf43 : u_T := fun k => match k with
  | _ => ("", "", "", false)
def tyJx3cf43 : Nat → FieldType := fun k => match k with
  | _ => .int
abbrev wsJx3cf430 : List Cond := u_ws RJx3cf43 TJx3cf43 0
theorem nmJx3cf43 : ∀ a, a < 0 → ∀ b, b < 0 → a ≠ b → (TJx3cf43 a).2.1 ≠ (TJx3cf43 b).2.1 := by decide +kernel
theorem tyJx3cf43_ok : ∀ k, k < 0 → parseFieldDescriptor (TJx3cf43 k).2.2.1 = some (tyJx3cf43 k) := by decide +kernel
def RJ3 : String := "jdk/internal/util/Preconditions"
def TJ3 : u_T := fun k => match k with
  | _ => ("", "", "", false)
def tyJ3 : Nat → FieldType := fun k => match k with
  | _ => .int
abbrev wsJ30 : List Cond := u_ws RJ3 TJ3 0
theorem nmJ3 : ∀ a, a < 0 → ∀ b, b < 0 → a ≠ b → (TJ3 a).2.1 ≠ (TJ3 b).2.1 := by decide +kernel
theorem tyJ3_ok : ∀ k, k < 0 → parseFieldDescriptor (TJ3 k).2.2.1 = some (tyJ3 k) := by decide +kernel
abbrev cJ3_checkIndex_8e157 : ByteArray := prog_33_method_11_code
def yJ3_checkIndex_8e157 : MethodName := ⟨RJ3, "checkIndex", "(IILjava/util/function/BiFunction;)I"⟩
def RL : String := "ScoreOrchestraLaw"
abbrev cL_addSection : ByteArray := method_3_code
def yL_addSection : MethodName := ⟨RL, "addSection", "(LScoreOrchestra;CII[J)I"⟩
abbrev cL_removeSection : ByteArray := method_4_code
def yL_removeSection : MethodName := ⟨RL, "removeSection", "(LScoreOrchestra;I[J)I"⟩
abbrev cL_setNote : ByteArray := method_5_code
def yL_setNote : MethodName := ⟨RL, "setNote", "(LScoreOrchestra;IIII[J)I"⟩
abbrev cL_setMasked : ByteArray := method_6_code
def yL_setMasked : MethodName := ⟨RL, "setMasked", "(LScoreOrchestra;IIZ[J)I"⟩
abbrev cL_transpose : ByteArray := method_7_code
def yL_transpose : MethodName := ⟨RL, "transpose", "(LScoreOrchestra;I[J)I"⟩
abbrev cL_reverse : ByteArray := method_8_code
def yL_reverse : MethodName := ⟨RL, "reverse", "(LScoreOrchestra;I[J)I"⟩
abbrev cL_raise : ByteArray := method_9_code
def yL_raise : MethodName := ⟨RL, "raise", "(LScoreOrchestra;II[J)I"⟩
abbrev cL_setTempo : ByteArray := method_10_code
def yL_setTempo : MethodName := ⟨RL, "setTempo", "(LScoreOrchestra;I[J)I"⟩
abbrev cL_setLimit : ByteArray := method_11_code
def yL_setLimit : MethodName := ⟨RL, "setLimit", "(LScoreOrchestra;I[J)I"⟩
abbrev cL_conductBeats : ByteArray := method_12_code
def yL_conductBeats : MethodName := ⟨RL, "conductBeats", "(LScoreOrchestra;I[J)I"⟩
abbrev cL_kind : ByteArray := method_13_code
def yL_kind : MethodName := ⟨RL, "kind", "(LScoreOrchestra;I[J)I"⟩
abbrev cL_rows : ByteArray := method_14_code
def yL_rows : MethodName := ⟨RL, "rows", "(LScoreOrchestra;I[J)I"⟩
abbrev cL_columns : ByteArray := method_15_code
def yL_columns : MethodName := ⟨RL, "columns", "(LScoreOrchestra;I[J)I"⟩
abbrev cL_note : ByteArray := method_16_code
def yL_note : MethodName := ⟨RL, "note", "(LScoreOrchestra;III[J)I"⟩
abbrev cL_isMasked : ByteArray := method_17_code
def yL_isMasked : MethodName := ⟨RL, "isMasked", "(LScoreOrchestra;II[J)I"⟩
abbrev cL_fatigue : ByteArray := method_18_code
def yL_fatigue : MethodName := ⟨RL, "fatigue", "(LScoreOrchestra;I[J)I"⟩
abbrev cL_restingBeats : ByteArray := method_19_code
def yL_restingBeats : MethodName := ⟨RL, "restingBeats", "(LScoreOrchestra;I[J)I"⟩
abbrev cL_isSymmetric : ByteArray := method_20_code
def yL_isSymmetric : MethodName := ⟨RL, "isSymmetric", "(LScoreOrchestra;I[J)I"⟩
abbrev cL_areAlike : ByteArray := method_21_code
def yL_areAlike : MethodName := ⟨RL, "areAlike", "(LScoreOrchestra;II[J)I"⟩
abbrev cL_noteVolume : ByteArray := method_22_code
def yL_noteVolume : MethodName := ⟨RL, "noteVolume", "(LScoreOrchestra;CI[J)I"⟩
abbrev cL_columnVolume : ByteArray := method_23_code
def yL_columnVolume : MethodName := ⟨RL, "columnVolume", "(LScoreOrchestra;II[J)I"⟩
abbrev cL_columnVolumeByTransposing : ByteArray := method_24_code
def yL_columnVolumeByTransposing : MethodName := ⟨RL, "columnVolumeByTransposing", "(LScoreOrchestra;II[J)I"⟩
abbrev cL_nextVolume : ByteArray := method_25_code
def yL_nextVolume : MethodName := ⟨RL, "nextVolume", "(LScoreOrchestra;I[J)I"⟩
abbrev cL_beatsUntilBreak : ByteArray := method_26_code
def yL_beatsUntilBreak : MethodName := ⟨RL, "beatsUntilBreak", "(LScoreOrchestra;[J)I"⟩
abbrev cL_totalWithin : ByteArray := method_27_code
def yL_totalWithin : MethodName := ⟨RL, "totalWithin", "(LScoreOrchestra;I[J)I"⟩
abbrev cL_playedVolume : ByteArray := method_28_code
def yL_playedVolume : MethodName := ⟨RL, "playedVolume", "(LScoreOrchestra;I[J)I"⟩
abbrev cL_soundCount : ByteArray := method_29_code
def yL_soundCount : MethodName := ⟨RL, "soundCount", "(LScoreOrchestra;CI[J)I"⟩
abbrev cL_greatestTotal : ByteArray := method_30_code
def yL_greatestTotal : MethodName := ⟨RL, "greatestTotal", "(LScoreOrchestra;[J)I"⟩
abbrev cL_loggedTotal : ByteArray := method_31_code
def yL_loggedTotal : MethodName := ⟨RL, "loggedTotal", "(LScoreOrchestra;I[J)I"⟩
abbrev cL_sectionByVolume : ByteArray := method_32_code
def yL_sectionByVolume : MethodName := ⟨RL, "sectionByVolume", "(LScoreOrchestra;I[J)I"⟩
abbrev cL_noteBySounds : ByteArray := method_33_code
def yL_noteBySounds : MethodName := ⟨RL, "noteBySounds", "(LScoreOrchestra;I[J)I"⟩
abbrev cL_meanTotal : ByteArray := method_34_code
def yL_meanTotal : MethodName := ⟨RL, "meanTotal", "(LScoreOrchestra;[D)I"⟩
abbrev cL_maskedShare : ByteArray := method_35_code
def yL_maskedShare : MethodName := ⟨RL, "maskedShare", "(LScoreOrchestra;I[D)I"⟩
abbrev cL_renderScore : ByteArray := method_36_code
def yL_renderScore : MethodName := ⟨RL, "renderScore", "(LScoreOrchestra;I[J)I"⟩
abbrev cL_renderMask : ByteArray := method_37_code
def yL_renderMask : MethodName := ⟨RL, "renderMask", "(LScoreOrchestra;I[J)I"⟩
abbrev cL_outputAt : ByteArray := method_38_code
def yL_outputAt : MethodName := ⟨RL, "outputAt", "(LScoreOrchestra;I[J)I"⟩
abbrev cL_type : ByteArray := method_39_code
def yL_type : MethodName := ⟨RL, "type", "(LScoreOrchestra;C[J)I"⟩
abbrev cL_runScript : ByteArray := method_40_code
def yL_runScript : MethodName := ⟨RL, "runScript", "(LScoreOrchestra;[J)I"⟩
abbrev cL_errorPosition : ByteArray := method_41_code
def yL_errorPosition : MethodName := ⟨RL, "errorPosition", "(LScoreOrchestra;[J)I"⟩
abbrev cL_failedCommand : ByteArray := method_42_code
def yL_failedCommand : MethodName := ⟨RL, "failedCommand", "(LScoreOrchestra;[J)I"⟩
abbrev cL_undo : ByteArray := method_43_code
def yL_undo : MethodName := ⟨RL, "undo", "(LScoreOrchestra;[J)I"⟩
abbrev cL_restore : ByteArray := method_44_code
def yL_restore : MethodName := ⟨RL, "restore", "(LScoreOrchestra;[J)I"⟩
abbrev cL_law : ByteArray := code
def yL_law : MethodName := ⟨RL, "law", "([I)Z"⟩
end
section
theorem dX1_init_0 : decode cX1_init 0 = .ok (.aload_n 0, 1) := by decide +kernel
theorem dX1_init_1 : decode cX1_init 1 = .ok (.invokespecial 1, 3) := by decide +kernel
theorem dX1_init_4 : decode cX1_init 4 = .ok (.aload_n 0, 1) := by decide +kernel
theorem dX1_init_5 : decode cX1_init 5 = .ok (.getstatic 7, 3) := by decide +kernel
theorem dX1_init_8 : decode cX1_init 8 = .ok (.putfield 13, 3) := by decide +kernel
theorem dX1_init_11 : decode cX1_init 11 = .ok (.aload_n 0, 1) := by decide +kernel
theorem dX1_init_12 : decode cX1_init 12 = .ok (.iconst 4, 1) := by decide +kernel
theorem dX1_init_13 : decode cX1_init 13 = .ok (.newarray .int, 2) := by decide +kernel
theorem dX1_init_15 : decode cX1_init 15 = .ok (.putfield 18, 3) := by decide +kernel
theorem dX1_init_18 : decode cX1_init 18 = .ok (.aload_n 0, 1) := by decide +kernel
theorem dX1_init_19 : decode cX1_init 19 = .ok (.iconst 0, 1) := by decide +kernel
theorem dX1_init_20 : decode cX1_init 20 = .ok (.putfield 22, 3) := by decide +kernel
theorem dX1_init_23 : decode cX1_init 23 = .ok (.return_, 1) := by decide +kernel
theorem dX1_begin_0 : decode cX1_begin 0 = .ok (.aload_n 0, 1) := by decide +kernel
theorem dX1_begin_1 : decode cX1_begin 1 = .ok (.aload_n 1, 1) := by decide +kernel
theorem dX1_begin_2 : decode cX1_begin 2 = .ok (.putfield 13, 3) := by decide +kernel
theorem dX1_begin_5 : decode cX1_begin 5 = .ok (.aload_n 0, 1) := by decide +kernel
theorem dX1_begin_6 : decode cX1_begin 6 = .ok (.iconst 0, 1) := by decide +kernel
theorem dX1_begin_7 : decode cX1_begin 7 = .ok (.putfield 22, 3) := by decide +kernel
theorem dX1_begin_10 : decode cX1_begin 10 = .ok (.return_, 1) := by decide +kernel
theorem dX1_put_0 : decode cX1_put 0 = .ok (.aload_n 0, 1) := by decide +kernel
theorem dX1_put_1 : decode cX1_put 1 = .ok (.getfield 22, 3) := by decide +kernel
theorem dX1_put_4 : decode cX1_put 4 = .ok (.ifCond .lt 35, 3) := by decide +kernel
theorem dX1_put_7 : decode cX1_put 7 = .ok (.aload_n 0, 1) := by decide +kernel
theorem dX1_put_8 : decode cX1_put 8 = .ok (.getfield 22, 3) := by decide +kernel
theorem dX1_put_11 : decode cX1_put 11 = .ok (.aload_n 0, 1) := by decide +kernel
theorem dX1_put_12 : decode cX1_put 12 = .ok (.getfield 18, 3) := by decide +kernel
theorem dX1_put_15 : decode cX1_put 15 = .ok (.arraylength, 1) := by decide +kernel
theorem dX1_put_16 : decode cX1_put 16 = .ok (.if_icmp .ge 23, 3) := by decide +kernel
theorem dX1_put_19 : decode cX1_put 19 = .ok (.aload_n 0, 1) := by decide +kernel
theorem dX1_put_20 : decode cX1_put 20 = .ok (.getfield 18, 3) := by decide +kernel
theorem dX1_put_23 : decode cX1_put 23 = .ok (.aload_n 0, 1) := by decide +kernel
theorem dX1_put_24 : decode cX1_put 24 = .ok (.getfield 22, 3) := by decide +kernel
theorem dX1_put_27 : decode cX1_put 27 = .ok (.iload_n 1, 1) := by decide +kernel
theorem dX1_put_28 : decode cX1_put 28 = .ok (.iastore, 1) := by decide +kernel
theorem dX1_put_29 : decode cX1_put 29 = .ok (.aload_n 0, 1) := by decide +kernel
theorem dX1_put_30 : decode cX1_put 30 = .ok (.dup, 1) := by decide +kernel
theorem dX1_put_31 : decode cX1_put 31 = .ok (.getfield 22, 3) := by decide +kernel
theorem dX1_put_34 : decode cX1_put 34 = .ok (.iconst 1, 1) := by decide +kernel
theorem dX1_put_35 : decode cX1_put 35 = .ok (.iadd, 1) := by decide +kernel
theorem dX1_put_36 : decode cX1_put 36 = .ok (.putfield 22, 3) := by decide +kernel
theorem dX1_put_39 : decode cX1_put 39 = .ok (.return_, 1) := by decide +kernel
theorem dX1_valueAt_0 : decode cX1_valueAt 0 = .ok (.iload_n 1, 1) := by decide +kernel
theorem dX1_valueAt_1 : decode cX1_valueAt 1 = .ok (.ifCond .lt 29, 3) := by decide +kernel
theorem dX1_valueAt_4 : decode cX1_valueAt 4 = .ok (.iload_n 1, 1) := by decide +kernel
theorem dX1_valueAt_5 : decode cX1_valueAt 5 = .ok (.aload_n 0, 1) := by decide +kernel
theorem dX1_valueAt_6 : decode cX1_valueAt 6 = .ok (.getfield 22, 3) := by decide +kernel
theorem dX1_valueAt_9 : decode cX1_valueAt 9 = .ok (.if_icmp .ge 21, 3) := by decide +kernel
theorem dX1_valueAt_12 : decode cX1_valueAt 12 = .ok (.iload_n 1, 1) := by decide +kernel
theorem dX1_valueAt_13 : decode cX1_valueAt 13 = .ok (.aload_n 0, 1) := by decide +kernel
theorem dX1_valueAt_14 : decode cX1_valueAt 14 = .ok (.getfield 18, 3) := by decide +kernel
theorem dX1_valueAt_17 : decode cX1_valueAt 17 = .ok (.arraylength, 1) := by decide +kernel
theorem dX1_valueAt_18 : decode cX1_valueAt 18 = .ok (.if_icmp .ge 12, 3) := by decide +kernel
theorem dX1_valueAt_21 : decode cX1_valueAt 21 = .ok (.aload_n 0, 1) := by decide +kernel
theorem dX1_valueAt_22 : decode cX1_valueAt 22 = .ok (.getfield 18, 3) := by decide +kernel
theorem dX1_valueAt_25 : decode cX1_valueAt 25 = .ok (.iload_n 1, 1) := by decide +kernel
theorem dX1_valueAt_26 : decode cX1_valueAt 26 = .ok (.iaload, 1) := by decide +kernel
theorem dX1_valueAt_27 : decode cX1_valueAt 27 = .ok (.goto 4, 3) := by decide +kernel
theorem dX1_valueAt_30 : decode cX1_valueAt 30 = .ok (.iconst 0, 1) := by decide +kernel
theorem dX1_valueAt_31 : decode cX1_valueAt 31 = .ok (.ireturn, 1) := by decide +kernel
theorem dX2_init_0 : decode cX2_init 0 = .ok (.aload_n 0, 1) := by decide +kernel
theorem dX2_init_1 : decode cX2_init 1 = .ok (.invokespecial 3, 3) := by decide +kernel
theorem dX2_init_4 : decode cX2_init 4 = .ok (.aload_n 0, 1) := by decide +kernel
theorem dX2_init_5 : decode cX2_init 5 = .ok (.bipush 9, 2) := by decide +kernel
theorem dX2_init_7 : decode cX2_init 7 = .ok (.anewarray 9, 3) := by decide +kernel
theorem dX2_init_10 : decode cX2_init 10 = .ok (.putfield 11, 3) := by decide +kernel
theorem dX2_init_13 : decode cX2_init 13 = .ok (.aload_n 0, 1) := by decide +kernel
theorem dX2_init_14 : decode cX2_init 14 = .ok (.iconst 0, 1) := by decide +kernel
theorem dX2_init_15 : decode cX2_init 15 = .ok (.putfield 17, 3) := by decide +kernel
theorem dX2_init_18 : decode cX2_init 18 = .ok (.aload_n 0, 1) := by decide +kernel
theorem dX2_init_19 : decode cX2_init 19 = .ok (.iconst 0, 1) := by decide +kernel
theorem dX2_init_20 : decode cX2_init 20 = .ok (.putfield 21, 3) := by decide +kernel
theorem dX2_init_23 : decode cX2_init 23 = .ok (.iconst 0, 1) := by decide +kernel
theorem dX2_init_24 : decode cX2_init 24 = .ok (.istore_n 1, 1) := by decide +kernel
theorem dX2_init_25 : decode cX2_init 25 = .ok (.iload_n 1, 1) := by decide +kernel
theorem dX2_init_26 : decode cX2_init 26 = .ok (.aload_n 0, 1) := by decide +kernel
theorem dX2_init_27 : decode cX2_init 27 = .ok (.getfield 11, 3) := by decide +kernel
theorem dX2_init_30 : decode cX2_init 30 = .ok (.arraylength, 1) := by decide +kernel
theorem dX2_init_31 : decode cX2_init 31 = .ok (.if_icmp .ge 22, 3) := by decide +kernel
theorem dX2_init_34 : decode cX2_init 34 = .ok (.aload_n 0, 1) := by decide +kernel
theorem dX2_init_35 : decode cX2_init 35 = .ok (.getfield 11, 3) := by decide +kernel
theorem dX2_init_38 : decode cX2_init 38 = .ok (.iload_n 1, 1) := by decide +kernel
theorem dX2_init_39 : decode cX2_init 39 = .ok (.new 9, 3) := by decide +kernel
theorem dX2_init_42 : decode cX2_init 42 = .ok (.dup, 1) := by decide +kernel
theorem dX2_init_43 : decode cX2_init 43 = .ok (.invokespecial 24, 3) := by decide +kernel
theorem dX2_init_46 : decode cX2_init 46 = .ok (.aastore, 1) := by decide +kernel
theorem dX2_init_47 : decode cX2_init 47 = .ok (.iinc 1 1, 3) := by decide +kernel
theorem dX2_init_50 : decode cX2_init 50 = .ok (.goto (-25), 3) := by decide +kernel
theorem dX2_init_53 : decode cX2_init 53 = .ok (.return_, 1) := by decide +kernel
theorem dX2_prepare_0 : decode cX2_prepare 0 = .ok (.aload_n 0, 1) := by decide +kernel
theorem dX2_prepare_1 : decode cX2_prepare 1 = .ok (.getfield 17, 3) := by decide +kernel
theorem dX2_prepare_4 : decode cX2_prepare 4 = .ok (.ifCond .lt 28, 3) := by decide +kernel
theorem dX2_prepare_7 : decode cX2_prepare 7 = .ok (.aload_n 0, 1) := by decide +kernel
theorem dX2_prepare_8 : decode cX2_prepare 8 = .ok (.getfield 17, 3) := by decide +kernel
theorem dX2_prepare_11 : decode cX2_prepare 11 = .ok (.aload_n 0, 1) := by decide +kernel
theorem dX2_prepare_12 : decode cX2_prepare 12 = .ok (.getfield 11, 3) := by decide +kernel
theorem dX2_prepare_15 : decode cX2_prepare 15 = .ok (.arraylength, 1) := by decide +kernel
theorem dX2_prepare_16 : decode cX2_prepare 16 = .ok (.if_icmp .ge 16, 3) := by decide +kernel
theorem dX2_prepare_19 : decode cX2_prepare 19 = .ok (.aload_n 0, 1) := by decide +kernel
theorem dX2_prepare_20 : decode cX2_prepare 20 = .ok (.getfield 11, 3) := by decide +kernel
theorem dX2_prepare_23 : decode cX2_prepare 23 = .ok (.aload_n 0, 1) := by decide +kernel
theorem dX2_prepare_24 : decode cX2_prepare 24 = .ok (.getfield 17, 3) := by decide +kernel
theorem dX2_prepare_27 : decode cX2_prepare 27 = .ok (.aaload, 1) := by decide +kernel
theorem dX2_prepare_28 : decode cX2_prepare 28 = .ok (.aload_n 1, 1) := by decide +kernel
theorem dX2_prepare_29 : decode cX2_prepare 29 = .ok (.invokevirtual 25, 3) := by decide +kernel
theorem dX2_prepare_32 : decode cX2_prepare 32 = .ok (.return_, 1) := by decide +kernel
theorem dX2_keep_0 : decode cX2_keep 0 = .ok (.aload_n 0, 1) := by decide +kernel
theorem dX2_keep_1 : decode cX2_keep 1 = .ok (.aload_n 0, 1) := by decide +kernel
theorem dX2_keep_2 : decode cX2_keep 2 = .ok (.getfield 17, 3) := by decide +kernel
theorem dX2_keep_5 : decode cX2_keep 5 = .ok (.iconst 1, 1) := by decide +kernel
theorem dX2_keep_6 : decode cX2_keep 6 = .ok (.iadd, 1) := by decide +kernel
theorem dX2_keep_7 : decode cX2_keep 7 = .ok (.aload_n 0, 1) := by decide +kernel
theorem dX2_keep_8 : decode cX2_keep 8 = .ok (.getfield 11, 3) := by decide +kernel
theorem dX2_keep_11 : decode cX2_keep 11 = .ok (.arraylength, 1) := by decide +kernel
theorem dX2_keep_12 : decode cX2_keep 12 = .ok (.if_icmp .ge 12, 3) := by decide +kernel
theorem dX2_keep_15 : decode cX2_keep 15 = .ok (.aload_n 0, 1) := by decide +kernel
theorem dX2_keep_16 : decode cX2_keep 16 = .ok (.getfield 17, 3) := by decide +kernel
theorem dX2_keep_19 : decode cX2_keep 19 = .ok (.iconst 1, 1) := by decide +kernel
theorem dX2_keep_20 : decode cX2_keep 20 = .ok (.iadd, 1) := by decide +kernel
theorem dX2_keep_21 : decode cX2_keep 21 = .ok (.goto 4, 3) := by decide +kernel
theorem dX2_keep_24 : decode cX2_keep 24 = .ok (.iconst 0, 1) := by decide +kernel
theorem dX2_keep_25 : decode cX2_keep 25 = .ok (.putfield 17, 3) := by decide +kernel
theorem dX2_keep_28 : decode cX2_keep 28 = .ok (.aload_n 0, 1) := by decide +kernel
theorem dX2_keep_29 : decode cX2_keep 29 = .ok (.aload_n 0, 1) := by decide +kernel
theorem dX2_keep_30 : decode cX2_keep 30 = .ok (.getfield 21, 3) := by decide +kernel
theorem dX2_keep_33 : decode cX2_keep 33 = .ok (.iconst 1, 1) := by decide +kernel
theorem dX2_keep_34 : decode cX2_keep 34 = .ok (.iadd, 1) := by decide +kernel
theorem dX2_keep_35 : decode cX2_keep 35 = .ok (.bipush 8, 2) := by decide +kernel
theorem dX2_keep_37 : decode cX2_keep 37 = .ok (.invokestatic 29, 3) := by decide +kernel
theorem dX2_keep_40 : decode cX2_keep 40 = .ok (.putfield 21, 3) := by decide +kernel
theorem dX2_keep_43 : decode cX2_keep 43 = .ok (.return_, 1) := by decide +kernel
theorem dX2_putBack_0 : decode cX2_putBack 0 = .ok (.aload_n 0, 1) := by decide +kernel
theorem dX2_putBack_1 : decode cX2_putBack 1 = .ok (.getfield 17, 3) := by decide +kernel
theorem dX2_putBack_4 : decode cX2_putBack 4 = .ok (.ifCond .lt 28, 3) := by decide +kernel
theorem dX2_putBack_7 : decode cX2_putBack 7 = .ok (.aload_n 0, 1) := by decide +kernel
theorem dX2_putBack_8 : decode cX2_putBack 8 = .ok (.getfield 17, 3) := by decide +kernel
theorem dX2_putBack_11 : decode cX2_putBack 11 = .ok (.aload_n 0, 1) := by decide +kernel
theorem dX2_putBack_12 : decode cX2_putBack 12 = .ok (.getfield 11, 3) := by decide +kernel
theorem dX2_putBack_15 : decode cX2_putBack 15 = .ok (.arraylength, 1) := by decide +kernel
theorem dX2_putBack_16 : decode cX2_putBack 16 = .ok (.if_icmp .ge 16, 3) := by decide +kernel
theorem dX2_putBack_19 : decode cX2_putBack 19 = .ok (.aload_n 1, 1) := by decide +kernel
theorem dX2_putBack_20 : decode cX2_putBack 20 = .ok (.aload_n 0, 1) := by decide +kernel
theorem dX2_putBack_21 : decode cX2_putBack 21 = .ok (.getfield 11, 3) := by decide +kernel
theorem dX2_putBack_24 : decode cX2_putBack 24 = .ok (.aload_n 0, 1) := by decide +kernel
theorem dX2_putBack_25 : decode cX2_putBack 25 = .ok (.getfield 17, 3) := by decide +kernel
theorem dX2_putBack_28 : decode cX2_putBack 28 = .ok (.aaload, 1) := by decide +kernel
theorem dX2_putBack_29 : decode cX2_putBack 29 = .ok (.invokevirtual 25, 3) := by decide +kernel
theorem dX2_putBack_32 : decode cX2_putBack 32 = .ok (.return_, 1) := by decide +kernel
theorem dX2_stepBack_0 : decode cX2_stepBack 0 = .ok (.aload_n 0, 1) := by decide +kernel
theorem dX2_stepBack_1 : decode cX2_stepBack 1 = .ok (.aload_n 0, 1) := by decide +kernel
theorem dX2_stepBack_2 : decode cX2_stepBack 2 = .ok (.getfield 17, 3) := by decide +kernel
theorem dX2_stepBack_5 : decode cX2_stepBack 5 = .ok (.ifCond .le 12, 3) := by decide +kernel
theorem dX2_stepBack_8 : decode cX2_stepBack 8 = .ok (.aload_n 0, 1) := by decide +kernel
theorem dX2_stepBack_9 : decode cX2_stepBack 9 = .ok (.getfield 17, 3) := by decide +kernel
theorem dX2_stepBack_12 : decode cX2_stepBack 12 = .ok (.iconst 1, 1) := by decide +kernel
theorem dX2_stepBack_13 : decode cX2_stepBack 13 = .ok (.isub, 1) := by decide +kernel
theorem dX2_stepBack_14 : decode cX2_stepBack 14 = .ok (.goto 10, 3) := by decide +kernel
theorem dX2_stepBack_17 : decode cX2_stepBack 17 = .ok (.aload_n 0, 1) := by decide +kernel
theorem dX2_stepBack_18 : decode cX2_stepBack 18 = .ok (.getfield 11, 3) := by decide +kernel
theorem dX2_stepBack_21 : decode cX2_stepBack 21 = .ok (.arraylength, 1) := by decide +kernel
theorem dX2_stepBack_22 : decode cX2_stepBack 22 = .ok (.iconst 1, 1) := by decide +kernel
theorem dX2_stepBack_23 : decode cX2_stepBack 23 = .ok (.isub, 1) := by decide +kernel
theorem dX2_stepBack_24 : decode cX2_stepBack 24 = .ok (.putfield 17, 3) := by decide +kernel
theorem dX2_stepBack_27 : decode cX2_stepBack 27 = .ok (.aload_n 0, 1) := by decide +kernel
theorem dX2_stepBack_28 : decode cX2_stepBack 28 = .ok (.dup, 1) := by decide +kernel
theorem dX2_stepBack_29 : decode cX2_stepBack 29 = .ok (.getfield 21, 3) := by decide +kernel
theorem dX2_stepBack_32 : decode cX2_stepBack 32 = .ok (.iconst 1, 1) := by decide +kernel
theorem dX2_stepBack_33 : decode cX2_stepBack 33 = .ok (.isub, 1) := by decide +kernel
theorem dX2_stepBack_34 : decode cX2_stepBack 34 = .ok (.putfield 21, 3) := by decide +kernel
theorem dX2_stepBack_37 : decode cX2_stepBack 37 = .ok (.aload_n 0, 1) := by decide +kernel
theorem dX2_stepBack_38 : decode cX2_stepBack 38 = .ok (.aload_n 1, 1) := by decide +kernel
theorem dX2_stepBack_39 : decode cX2_stepBack 39 = .ok (.invokevirtual 35, 3) := by decide +kernel
theorem dX2_stepBack_42 : decode cX2_stepBack 42 = .ok (.return_, 1) := by decide +kernel
theorem dX2_forget_0 : decode cX2_forget 0 = .ok (.aload_n 0, 1) := by decide +kernel
theorem dX2_forget_1 : decode cX2_forget 1 = .ok (.iconst 0, 1) := by decide +kernel
theorem dX2_forget_2 : decode cX2_forget 2 = .ok (.putfield 21, 3) := by decide +kernel
theorem dX2_forget_5 : decode cX2_forget 5 = .ok (.return_, 1) := by decide +kernel
theorem dX3_init_0 : decode cX3_init 0 = .ok (.aload_n 0, 1) := by decide +kernel
theorem dX3_init_1 : decode cX3_init 1 = .ok (.invokespecial 3, 3) := by decide +kernel
theorem dX3_init_4 : decode cX3_init 4 = .ok (.aload_n 0, 1) := by decide +kernel
theorem dX3_init_5 : decode cX3_init 5 = .ok (.new 9, 3) := by decide +kernel
theorem dX3_init_8 : decode cX3_init 8 = .ok (.dup, 1) := by decide +kernel
theorem dX3_init_9 : decode cX3_init 9 = .ok (.invokespecial 11, 3) := by decide +kernel
theorem dX3_init_12 : decode cX3_init 12 = .ok (.putfield 12, 3) := by decide +kernel
theorem dX3_init_15 : decode cX3_init 15 = .ok (.aload_n 0, 1) := by decide +kernel
theorem dX3_init_16 : decode cX3_init 16 = .ok (.bipush 12, 2) := by decide +kernel
theorem dX3_init_18 : decode cX3_init 18 = .ok (.anewarray 18, 3) := by decide +kernel
theorem dX3_init_21 : decode cX3_init 21 = .ok (.putfield 20, 3) := by decide +kernel
theorem dX3_init_24 : decode cX3_init 24 = .ok (.aload_n 0, 1) := by decide +kernel
theorem dX3_init_25 : decode cX3_init 25 = .ok (.iconst 0, 1) := by decide +kernel
theorem dX3_init_26 : decode cX3_init 26 = .ok (.putfield 24, 3) := by decide +kernel
theorem dX3_init_29 : decode cX3_init 29 = .ok (.aload_n 0, 1) := by decide +kernel
theorem dX3_init_30 : decode cX3_init 30 = .ok (.iconst 0, 1) := by decide +kernel
theorem dX3_init_31 : decode cX3_init 31 = .ok (.putfield 28, 3) := by decide +kernel
theorem dX3_init_34 : decode cX3_init 34 = .ok (.iconst 0, 1) := by decide +kernel
theorem dX3_init_35 : decode cX3_init 35 = .ok (.istore_n 1, 1) := by decide +kernel
theorem dX3_init_36 : decode cX3_init 36 = .ok (.iload_n 1, 1) := by decide +kernel
theorem dX3_init_37 : decode cX3_init 37 = .ok (.aload_n 0, 1) := by decide +kernel
theorem dX3_init_38 : decode cX3_init 38 = .ok (.getfield 20, 3) := by decide +kernel
theorem dX3_init_41 : decode cX3_init 41 = .ok (.arraylength, 1) := by decide +kernel
theorem dX3_init_42 : decode cX3_init 42 = .ok (.if_icmp .ge 22, 3) := by decide +kernel
theorem dX3_init_45 : decode cX3_init 45 = .ok (.aload_n 0, 1) := by decide +kernel
theorem dX3_init_46 : decode cX3_init 46 = .ok (.getfield 20, 3) := by decide +kernel
theorem dX3_init_49 : decode cX3_init 49 = .ok (.iload_n 1, 1) := by decide +kernel
theorem dX3_init_50 : decode cX3_init 50 = .ok (.new 18, 3) := by decide +kernel
theorem dX3_init_53 : decode cX3_init 53 = .ok (.dup, 1) := by decide +kernel
theorem dX3_init_54 : decode cX3_init 54 = .ok (.invokespecial 31, 3) := by decide +kernel
theorem dX3_init_57 : decode cX3_init 57 = .ok (.aastore, 1) := by decide +kernel
theorem dX3_init_58 : decode cX3_init 58 = .ok (.iinc 1 1, 3) := by decide +kernel
theorem dX3_init_61 : decode cX3_init 61 = .ok (.goto (-25), 3) := by decide +kernel
theorem dX3_init_64 : decode cX3_init 64 = .ok (.return_, 1) := by decide +kernel
theorem dX3_read_0 : decode cX3_read 0 = .ok (.aload_n 0, 1) := by decide +kernel
theorem dX3_read_1 : decode cX3_read 1 = .ok (.iconst 0, 1) := by decide +kernel
theorem dX3_read_2 : decode cX3_read 2 = .ok (.putfield 28, 3) := by decide +kernel
theorem dX3_read_5 : decode cX3_read 5 = .ok (.aload_n 0, 1) := by decide +kernel
theorem dX3_read_6 : decode cX3_read 6 = .ok (.iconst 0, 1) := by decide +kernel
theorem dX3_read_7 : decode cX3_read 7 = .ok (.putfield 24, 3) := by decide +kernel
theorem dX3_read_10 : decode cX3_read 10 = .ok (.iconst 0, 1) := by decide +kernel
theorem dX3_read_11 : decode cX3_read 11 = .ok (.istore_n 1, 1) := by decide +kernel
theorem dX3_read_12 : decode cX3_read 12 = .ok (.iload_n 1, 1) := by decide +kernel
theorem dX3_read_13 : decode cX3_read 13 = .ok (.bipush 60, 2) := by decide +kernel
theorem dX3_read_15 : decode cX3_read 15 = .ok (.if_icmp .gt 45, 3) := by decide +kernel
theorem dX3_read_18 : decode cX3_read 18 = .ok (.aload_n 0, 1) := by decide +kernel
theorem dX3_read_19 : decode cX3_read 19 = .ok (.invokevirtual 32, 3) := by decide +kernel
theorem dX3_read_22 : decode cX3_read 22 = .ok (.ifCond .ne 5, 3) := by decide +kernel
theorem dX3_read_25 : decode cX3_read 25 = .ok (.iconst 0, 1) := by decide +kernel
theorem dX3_read_26 : decode cX3_read 26 = .ok (.ireturn, 1) := by decide +kernel
theorem dX3_read_27 : decode cX3_read 27 = .ok (.aload_n 0, 1) := by decide +kernel
theorem dX3_read_28 : decode cX3_read 28 = .ok (.getfield 28, 3) := by decide +kernel
theorem dX3_read_31 : decode cX3_read 31 = .ok (.aload_n 0, 1) := by decide +kernel
theorem dX3_read_32 : decode cX3_read 32 = .ok (.getfield 12, 3) := by decide +kernel
theorem dX3_read_35 : decode cX3_read 35 = .ok (.getfield 36, 3) := by decide +kernel
theorem dX3_read_38 : decode cX3_read 38 = .ok (.if_icmp .ne 5, 3) := by decide +kernel
theorem dX3_read_41 : decode cX3_read 41 = .ok (.iconst 1, 1) := by decide +kernel
theorem dX3_read_42 : decode cX3_read 42 = .ok (.ireturn, 1) := by decide +kernel
theorem dX3_read_43 : decode cX3_read 43 = .ok (.aload_n 0, 1) := by decide +kernel
theorem dX3_read_44 : decode cX3_read 44 = .ok (.bipush 59, 2) := by decide +kernel
theorem dX3_read_46 : decode cX3_read 46 = .ok (.invokevirtual 39, 3) := by decide +kernel
theorem dX3_read_49 : decode cX3_read 49 = .ok (.ifCond .ne 5, 3) := by decide +kernel
theorem dX3_read_52 : decode cX3_read 52 = .ok (.iconst 0, 1) := by decide +kernel
theorem dX3_read_53 : decode cX3_read 53 = .ok (.ireturn, 1) := by decide +kernel
theorem dX3_read_54 : decode cX3_read 54 = .ok (.iinc 1 1, 3) := by decide +kernel
theorem dX3_read_57 : decode cX3_read 57 = .ok (.goto (-45), 3) := by decide +kernel
theorem dX3_read_60 : decode cX3_read 60 = .ok (.iconst 0, 1) := by decide +kernel
theorem dX3_read_61 : decode cX3_read 61 = .ok (.ireturn, 1) := by decide +kernel
theorem dX3_readCommand_0 : decode cX3_readCommand 0 = .ok (.aload_n 0, 1) := by decide +kernel
theorem dX3_readCommand_1 : decode cX3_readCommand 1 = .ok (.invokevirtual 43, 3) := by decide +kernel
theorem dX3_readCommand_4 : decode cX3_readCommand 4 = .ok (.istore_n 1, 1) := by decide +kernel
theorem dX3_readCommand_5 : decode cX3_readCommand 5 = .ok (.iload_n 1, 1) := by decide +kernel
theorem dX3_readCommand_6 : decode cX3_readCommand 6 = .ok (.ifCond .lt 30, 3) := by decide +kernel
theorem dX3_readCommand_9 : decode cX3_readCommand 9 = .ok (.iload_n 1, 1) := by decide +kernel
theorem dX3_readCommand_10 : decode cX3_readCommand 10 = .ok (.getstatic 47, 3) := by decide +kernel
theorem dX3_readCommand_13 : decode cX3_readCommand 13 = .ok (.arraylength, 1) := by decide +kernel
theorem dX3_readCommand_14 : decode cX3_readCommand 14 = .ok (.if_icmp .ge 22, 3) := by decide +kernel
theorem dX3_readCommand_17 : decode cX3_readCommand 17 = .ok (.aload_n 0, 1) := by decide +kernel
theorem dX3_readCommand_18 : decode cX3_readCommand 18 = .ok (.getfield 24, 3) := by decide +kernel
theorem dX3_readCommand_21 : decode cX3_readCommand 21 = .ok (.ifCond .lt 15, 3) := by decide +kernel
theorem dX3_readCommand_24 : decode cX3_readCommand 24 = .ok (.aload_n 0, 1) := by decide +kernel
theorem dX3_readCommand_25 : decode cX3_readCommand 25 = .ok (.getfield 24, 3) := by decide +kernel
theorem dX3_readCommand_28 : decode cX3_readCommand 28 = .ok (.aload_n 0, 1) := by decide +kernel
theorem dX3_readCommand_29 : decode cX3_readCommand 29 = .ok (.getfield 20, 3) := by decide +kernel
theorem dX3_readCommand_32 : decode cX3_readCommand 32 = .ok (.arraylength, 1) := by decide +kernel
theorem dX3_readCommand_33 : decode cX3_readCommand 33 = .ok (.if_icmp .lt 5, 3) := by decide +kernel
theorem dX3_readCommand_36 : decode cX3_readCommand 36 = .ok (.iconst 0, 1) := by decide +kernel
theorem dX3_readCommand_37 : decode cX3_readCommand 37 = .ok (.ireturn, 1) := by decide +kernel
theorem dX3_readCommand_38 : decode cX3_readCommand 38 = .ok (.getstatic 47, 3) := by decide +kernel
theorem dX3_readCommand_41 : decode cX3_readCommand 41 = .ok (.iload_n 1, 1) := by decide +kernel
theorem dX3_readCommand_42 : decode cX3_readCommand 42 = .ok (.aaload, 1) := by decide +kernel
theorem dX3_readCommand_43 : decode cX3_readCommand 43 = .ok (.getfield 51, 3) := by decide +kernel
theorem dX3_readCommand_46 : decode cX3_readCommand 46 = .ok (.astore_n 2, 1) := by decide +kernel
theorem dX3_readCommand_47 : decode cX3_readCommand 47 = .ok (.aload_n 0, 1) := by decide +kernel
theorem dX3_readCommand_48 : decode cX3_readCommand 48 = .ok (.getfield 20, 3) := by decide +kernel
theorem dX3_readCommand_51 : decode cX3_readCommand 51 = .ok (.aload_n 0, 1) := by decide +kernel
theorem dX3_readCommand_52 : decode cX3_readCommand 52 = .ok (.getfield 24, 3) := by decide +kernel
theorem dX3_readCommand_55 : decode cX3_readCommand 55 = .ok (.aaload, 1) := by decide +kernel
theorem dX3_readCommand_56 : decode cX3_readCommand 56 = .ok (.getstatic 47, 3) := by decide +kernel
theorem dX3_readCommand_59 : decode cX3_readCommand 59 = .ok (.iload_n 1, 1) := by decide +kernel
theorem dX3_readCommand_60 : decode cX3_readCommand 60 = .ok (.aaload, 1) := by decide +kernel
theorem dX3_readCommand_61 : decode cX3_readCommand 61 = .ok (.invokevirtual 57, 3) := by decide +kernel
theorem dX3_readCommand_64 : decode cX3_readCommand 64 = .ok (.iconst 0, 1) := by decide +kernel
theorem dX3_readCommand_65 : decode cX3_readCommand 65 = .ok (.istore_n 3, 1) := by decide +kernel
theorem dX3_readCommand_66 : decode cX3_readCommand 66 = .ok (.iload_n 3, 1) := by decide +kernel
theorem dX3_readCommand_67 : decode cX3_readCommand 67 = .ok (.aload_n 2, 1) := by decide +kernel
theorem dX3_readCommand_68 : decode cX3_readCommand 68 = .ok (.invokevirtual 61, 3) := by decide +kernel
theorem dX3_readCommand_71 : decode cX3_readCommand 71 = .ok (.if_icmp .ge 32, 3) := by decide +kernel
theorem dX3_readCommand_74 : decode cX3_readCommand 74 = .ok (.aload_n 0, 1) := by decide +kernel
theorem dX3_readCommand_75 : decode cX3_readCommand 75 = .ok (.aload_n 0, 1) := by decide +kernel
theorem dX3_readCommand_76 : decode cX3_readCommand 76 = .ok (.getfield 20, 3) := by decide +kernel
theorem dX3_readCommand_79 : decode cX3_readCommand 79 = .ok (.aload_n 0, 1) := by decide +kernel
theorem dX3_readCommand_80 : decode cX3_readCommand 80 = .ok (.getfield 24, 3) := by decide +kernel
theorem dX3_readCommand_83 : decode cX3_readCommand 83 = .ok (.aaload, 1) := by decide +kernel
theorem dX3_readCommand_84 : decode cX3_readCommand 84 = .ok (.aload_n 2, 1) := by decide +kernel
theorem dX3_readCommand_85 : decode cX3_readCommand 85 = .ok (.iload_n 3, 1) := by decide +kernel
theorem dX3_readCommand_86 : decode cX3_readCommand 86 = .ok (.invokevirtual 65, 3) := by decide +kernel
theorem dX3_readCommand_89 : decode cX3_readCommand 89 = .ok (.invokevirtual 69, 3) := by decide +kernel
theorem dX3_readCommand_92 : decode cX3_readCommand 92 = .ok (.ifCond .ne 5, 3) := by decide +kernel
theorem dX3_readCommand_95 : decode cX3_readCommand 95 = .ok (.iconst 0, 1) := by decide +kernel
theorem dX3_readCommand_96 : decode cX3_readCommand 96 = .ok (.ireturn, 1) := by decide +kernel
theorem dX3_readCommand_97 : decode cX3_readCommand 97 = .ok (.iinc 3 1, 3) := by decide +kernel
theorem dX3_readCommand_100 : decode cX3_readCommand 100 = .ok (.goto (-34), 3) := by decide +kernel
theorem dX3_readCommand_103 : decode cX3_readCommand 103 = .ok (.aload_n 0, 1) := by decide +kernel
theorem dX3_readCommand_104 : decode cX3_readCommand 104 = .ok (.dup, 1) := by decide +kernel
theorem dX3_readCommand_105 : decode cX3_readCommand 105 = .ok (.getfield 24, 3) := by decide +kernel
theorem dX3_readCommand_108 : decode cX3_readCommand 108 = .ok (.iconst 1, 1) := by decide +kernel
theorem dX3_readCommand_109 : decode cX3_readCommand 109 = .ok (.iadd, 1) := by decide +kernel
theorem dX3_readCommand_110 : decode cX3_readCommand 110 = .ok (.putfield 24, 3) := by decide +kernel
theorem dX3_readCommand_113 : decode cX3_readCommand 113 = .ok (.iconst 1, 1) := by decide +kernel
theorem dX3_readCommand_114 : decode cX3_readCommand 114 = .ok (.ireturn, 1) := by decide +kernel
theorem dX3_readWord_0 : decode cX3_readWord 0 = .ok (.iconst 0, 1) := by decide +kernel
theorem dX3_readWord_1 : decode cX3_readWord 1 = .ok (.istore_n 1, 1) := by decide +kernel
theorem dX3_readWord_2 : decode cX3_readWord 2 = .ok (.iconst 0, 1) := by decide +kernel
theorem dX3_readWord_3 : decode cX3_readWord 3 = .ok (.istore_n 2, 1) := by decide +kernel
theorem dX3_readWord_4 : decode cX3_readWord 4 = .ok (.iload_n 2, 1) := by decide +kernel
theorem dX3_readWord_5 : decode cX3_readWord 5 = .ok (.getstatic 47, 3) := by decide +kernel
theorem dX3_readWord_8 : decode cX3_readWord 8 = .ok (.arraylength, 1) := by decide +kernel
theorem dX3_readWord_9 : decode cX3_readWord 9 = .ok (.if_icmp .ge 55, 3) := by decide +kernel
theorem dX3_readWord_12 : decode cX3_readWord 12 = .ok (.aload_n 0, 1) := by decide +kernel
theorem dX3_readWord_13 : decode cX3_readWord 13 = .ok (.getstatic 47, 3) := by decide +kernel
theorem dX3_readWord_16 : decode cX3_readWord 16 = .ok (.iload_n 2, 1) := by decide +kernel
theorem dX3_readWord_17 : decode cX3_readWord 17 = .ok (.aaload, 1) := by decide +kernel
theorem dX3_readWord_18 : decode cX3_readWord 18 = .ok (.getfield 73, 3) := by decide +kernel
theorem dX3_readWord_21 : decode cX3_readWord 21 = .ok (.invokevirtual 76, 3) := by decide +kernel
theorem dX3_readWord_24 : decode cX3_readWord 24 = .ok (.istore_n 3, 1) := by decide +kernel
theorem dX3_readWord_25 : decode cX3_readWord 25 = .ok (.iload_n 3, 1) := by decide +kernel
theorem dX3_readWord_26 : decode cX3_readWord 26 = .ok (.getstatic 47, 3) := by decide +kernel
theorem dX3_readWord_29 : decode cX3_readWord 29 = .ok (.iload_n 2, 1) := by decide +kernel
theorem dX3_readWord_30 : decode cX3_readWord 30 = .ok (.aaload, 1) := by decide +kernel
theorem dX3_readWord_31 : decode cX3_readWord 31 = .ok (.getfield 73, 3) := by decide +kernel
theorem dX3_readWord_34 : decode cX3_readWord 34 = .ok (.invokevirtual 61, 3) := by decide +kernel
theorem dX3_readWord_37 : decode cX3_readWord 37 = .ok (.if_icmp .ne 15, 3) := by decide +kernel
theorem dX3_readWord_40 : decode cX3_readWord 40 = .ok (.aload_n 0, 1) := by decide +kernel
theorem dX3_readWord_41 : decode cX3_readWord 41 = .ok (.dup, 1) := by decide +kernel
theorem dX3_readWord_42 : decode cX3_readWord 42 = .ok (.getfield 28, 3) := by decide +kernel
theorem dX3_readWord_45 : decode cX3_readWord 45 = .ok (.iload_n 3, 1) := by decide +kernel
theorem dX3_readWord_46 : decode cX3_readWord 46 = .ok (.iadd, 1) := by decide +kernel
theorem dX3_readWord_47 : decode cX3_readWord 47 = .ok (.putfield 28, 3) := by decide +kernel
theorem dX3_readWord_50 : decode cX3_readWord 50 = .ok (.iload_n 2, 1) := by decide +kernel
theorem dX3_readWord_51 : decode cX3_readWord 51 = .ok (.ireturn, 1) := by decide +kernel
theorem dX3_readWord_52 : decode cX3_readWord 52 = .ok (.iload_n 1, 1) := by decide +kernel
theorem dX3_readWord_53 : decode cX3_readWord 53 = .ok (.iload_n 3, 1) := by decide +kernel
theorem dX3_readWord_54 : decode cX3_readWord 54 = .ok (.invokestatic 80, 3) := by decide +kernel
theorem dX3_readWord_57 : decode cX3_readWord 57 = .ok (.istore_n 1, 1) := by decide +kernel
theorem dX3_readWord_58 : decode cX3_readWord 58 = .ok (.iinc 2 1, 3) := by decide +kernel
theorem dX3_readWord_61 : decode cX3_readWord 61 = .ok (.goto (-57), 3) := by decide +kernel
theorem dX3_readWord_64 : decode cX3_readWord 64 = .ok (.aload_n 0, 1) := by decide +kernel
theorem dX3_readWord_65 : decode cX3_readWord 65 = .ok (.dup, 1) := by decide +kernel
theorem dX3_readWord_66 : decode cX3_readWord 66 = .ok (.getfield 28, 3) := by decide +kernel
theorem dX3_readWord_69 : decode cX3_readWord 69 = .ok (.iload_n 1, 1) := by decide +kernel
theorem dX3_readWord_70 : decode cX3_readWord 70 = .ok (.iadd, 1) := by decide +kernel
theorem dX3_readWord_71 : decode cX3_readWord 71 = .ok (.putfield 28, 3) := by decide +kernel
theorem dX3_readWord_74 : decode cX3_readWord 74 = .ok (.iconst (-1), 1) := by decide +kernel
theorem dX3_readWord_75 : decode cX3_readWord 75 = .ok (.ireturn, 1) := by decide +kernel
theorem dX3_commonLength_0 : decode cX3_commonLength 0 = .ok (.iconst 0, 1) := by decide +kernel
theorem dX3_commonLength_1 : decode cX3_commonLength 1 = .ok (.istore_n 2, 1) := by decide +kernel
theorem dX3_commonLength_2 : decode cX3_commonLength 2 = .ok (.iload_n 2, 1) := by decide +kernel
theorem dX3_commonLength_3 : decode cX3_commonLength 3 = .ok (.aload_n 1, 1) := by decide +kernel
theorem dX3_commonLength_4 : decode cX3_commonLength 4 = .ok (.invokevirtual 61, 3) := by decide +kernel
theorem dX3_commonLength_7 : decode cX3_commonLength 7 = .ok (.if_icmp .ge 32, 3) := by decide +kernel
theorem dX3_commonLength_10 : decode cX3_commonLength 10 = .ok (.aload_n 0, 1) := by decide +kernel
theorem dX3_commonLength_11 : decode cX3_commonLength 11 = .ok (.getfield 12, 3) := by decide +kernel
theorem dX3_commonLength_14 : decode cX3_commonLength 14 = .ok (.aload_n 0, 1) := by decide +kernel
theorem dX3_commonLength_15 : decode cX3_commonLength 15 = .ok (.getfield 28, 3) := by decide +kernel
theorem dX3_commonLength_18 : decode cX3_commonLength 18 = .ok (.iload_n 2, 1) := by decide +kernel
theorem dX3_commonLength_19 : decode cX3_commonLength 19 = .ok (.iadd, 1) := by decide +kernel
theorem dX3_commonLength_20 : decode cX3_commonLength 20 = .ok (.invokevirtual 86, 3) := by decide +kernel
theorem dX3_commonLength_23 : decode cX3_commonLength 23 = .ok (.aload_n 1, 1) := by decide +kernel
theorem dX3_commonLength_24 : decode cX3_commonLength 24 = .ok (.iload_n 2, 1) := by decide +kernel
theorem dX3_commonLength_25 : decode cX3_commonLength 25 = .ok (.invokevirtual 65, 3) := by decide +kernel
theorem dX3_commonLength_28 : decode cX3_commonLength 28 = .ok (.if_icmp .eq 5, 3) := by decide +kernel
theorem dX3_commonLength_31 : decode cX3_commonLength 31 = .ok (.iload_n 2, 1) := by decide +kernel
theorem dX3_commonLength_32 : decode cX3_commonLength 32 = .ok (.ireturn, 1) := by decide +kernel
theorem dX3_commonLength_33 : decode cX3_commonLength 33 = .ok (.iinc 2 1, 3) := by decide +kernel
theorem dX3_commonLength_36 : decode cX3_commonLength 36 = .ok (.goto (-34), 3) := by decide +kernel
theorem dX3_commonLength_39 : decode cX3_commonLength 39 = .ok (.aload_n 1, 1) := by decide +kernel
theorem dX3_commonLength_40 : decode cX3_commonLength 40 = .ok (.invokevirtual 61, 3) := by decide +kernel
theorem dX3_commonLength_43 : decode cX3_commonLength 43 = .ok (.ireturn, 1) := by decide +kernel
theorem dX3_readPart_0 : decode cX3_readPart 0 = .ok (.iload_n 2, 1) := by decide +kernel
theorem dX3_readPart_1 : decode cX3_readPart 1 = .ok (.lookupswitch 97 #[(43, 69), (98, 75), (100, 57), (107, 51), (110, 63)], 51) := by decide +kernel
theorem dX3_readPart_52 : decode cX3_readPart 52 = .ok (.aload_n 0, 1) := by decide +kernel
theorem dX3_readPart_53 : decode cX3_readPart 53 = .ok (.aload_n 1, 1) := by decide +kernel
theorem dX3_readPart_54 : decode cX3_readPart 54 = .ok (.invokevirtual 89, 3) := by decide +kernel
theorem dX3_readPart_57 : decode cX3_readPart 57 = .ok (.ireturn, 1) := by decide +kernel
theorem dX3_readPart_58 : decode cX3_readPart 58 = .ok (.aload_n 0, 1) := by decide +kernel
theorem dX3_readPart_59 : decode cX3_readPart 59 = .ok (.aload_n 1, 1) := by decide +kernel
theorem dX3_readPart_60 : decode cX3_readPart 60 = .ok (.invokevirtual 93, 3) := by decide +kernel
theorem dX3_readPart_63 : decode cX3_readPart 63 = .ok (.ireturn, 1) := by decide +kernel
theorem dX3_readPart_64 : decode cX3_readPart 64 = .ok (.aload_n 0, 1) := by decide +kernel
theorem dX3_readPart_65 : decode cX3_readPart 65 = .ok (.aload_n 1, 1) := by decide +kernel
theorem dX3_readPart_66 : decode cX3_readPart 66 = .ok (.invokevirtual 96, 3) := by decide +kernel
theorem dX3_readPart_69 : decode cX3_readPart 69 = .ok (.ireturn, 1) := by decide +kernel
theorem dX3_readPart_70 : decode cX3_readPart 70 = .ok (.aload_n 0, 1) := by decide +kernel
theorem dX3_readPart_71 : decode cX3_readPart 71 = .ok (.aload_n 1, 1) := by decide +kernel
theorem dX3_readPart_72 : decode cX3_readPart 72 = .ok (.invokevirtual 99, 3) := by decide +kernel
theorem dX3_readPart_75 : decode cX3_readPart 75 = .ok (.ireturn, 1) := by decide +kernel
theorem dX3_readPart_76 : decode cX3_readPart 76 = .ok (.aload_n 0, 1) := by decide +kernel
theorem dX3_readPart_77 : decode cX3_readPart 77 = .ok (.bipush 32, 2) := by decide +kernel
theorem dX3_readPart_79 : decode cX3_readPart 79 = .ok (.invokevirtual 39, 3) := by decide +kernel
theorem dX3_readPart_82 : decode cX3_readPart 82 = .ok (.ifCond .eq 9, 3) := by decide +kernel
theorem dX3_readPart_85 : decode cX3_readPart 85 = .ok (.aload_n 0, 1) := by decide +kernel
theorem dX3_readPart_86 : decode cX3_readPart 86 = .ok (.aload_n 1, 1) := by decide +kernel
theorem dX3_readPart_87 : decode cX3_readPart 87 = .ok (.invokevirtual 96, 3) := by decide +kernel
theorem dX3_readPart_90 : decode cX3_readPart 90 = .ok (.ireturn, 1) := by decide +kernel
theorem dX3_readPart_91 : decode cX3_readPart 91 = .ok (.aload_n 1, 1) := by decide +kernel
theorem dX3_readPart_92 : decode cX3_readPart 92 = .ok (.iconst 1, 1) := by decide +kernel
theorem dX3_readPart_93 : decode cX3_readPart 93 = .ok (.invokevirtual 102, 3) := by decide +kernel
theorem dX3_readPart_96 : decode cX3_readPart 96 = .ok (.iconst 1, 1) := by decide +kernel
theorem dX3_readPart_97 : decode cX3_readPart 97 = .ok (.ireturn, 1) := by decide +kernel
theorem dX3_readPart_98 : decode cX3_readPart 98 = .ok (.aload_n 0, 1) := by decide +kernel
theorem dX3_readPart_99 : decode cX3_readPart 99 = .ok (.iload_n 2, 1) := by decide +kernel
theorem dX3_readPart_100 : decode cX3_readPart 100 = .ok (.invokevirtual 39, 3) := by decide +kernel
theorem dX3_readPart_103 : decode cX3_readPart 103 = .ok (.ireturn, 1) := by decide +kernel
theorem dX3_readKind_0 : decode cX3_readKind 0 = .ok (.aload_n 0, 1) := by decide +kernel
theorem dX3_readKind_1 : decode cX3_readKind 1 = .ok (.getfield 12, 3) := by decide +kernel
theorem dX3_readKind_4 : decode cX3_readKind 4 = .ok (.aload_n 0, 1) := by decide +kernel
theorem dX3_readKind_5 : decode cX3_readKind 5 = .ok (.getfield 28, 3) := by decide +kernel
theorem dX3_readKind_8 : decode cX3_readKind 8 = .ok (.invokevirtual 86, 3) := by decide +kernel
theorem dX3_readKind_11 : decode cX3_readKind 11 = .ok (.istore_n 2, 1) := by decide +kernel
theorem dX3_readKind_12 : decode cX3_readKind 12 = .ok (.iload_n 2, 1) := by decide +kernel
theorem dX3_readKind_13 : decode cX3_readKind 13 = .ok (.invokestatic 106, 3) := by decide +kernel
theorem dX3_readKind_16 : decode cX3_readKind 16 = .ok (.ifCond .ge 5, 3) := by decide +kernel
theorem dX3_readKind_19 : decode cX3_readKind 19 = .ok (.iconst 0, 1) := by decide +kernel
theorem dX3_readKind_20 : decode cX3_readKind 20 = .ok (.ireturn, 1) := by decide +kernel
theorem dX3_readKind_21 : decode cX3_readKind 21 = .ok (.aload_n 1, 1) := by decide +kernel
theorem dX3_readKind_22 : decode cX3_readKind 22 = .ok (.iload_n 2, 1) := by decide +kernel
theorem dX3_readKind_23 : decode cX3_readKind 23 = .ok (.invokevirtual 102, 3) := by decide +kernel
theorem dX3_readKind_26 : decode cX3_readKind 26 = .ok (.aload_n 0, 1) := by decide +kernel
theorem dX3_readKind_27 : decode cX3_readKind 27 = .ok (.dup, 1) := by decide +kernel
theorem dX3_readKind_28 : decode cX3_readKind 28 = .ok (.getfield 28, 3) := by decide +kernel
theorem dX3_readKind_31 : decode cX3_readKind 31 = .ok (.iconst 1, 1) := by decide +kernel
theorem dX3_readKind_32 : decode cX3_readKind 32 = .ok (.iadd, 1) := by decide +kernel
theorem dX3_readKind_33 : decode cX3_readKind 33 = .ok (.putfield 28, 3) := by decide +kernel
theorem dX3_readKind_36 : decode cX3_readKind 36 = .ok (.iconst 1, 1) := by decide +kernel
theorem dX3_readKind_37 : decode cX3_readKind 37 = .ok (.ireturn, 1) := by decide +kernel
theorem dX3_readDigit_0 : decode cX3_readDigit 0 = .ok (.aload_n 0, 1) := by decide +kernel
theorem dX3_readDigit_1 : decode cX3_readDigit 1 = .ok (.invokevirtual 110, 3) := by decide +kernel
theorem dX3_readDigit_4 : decode cX3_readDigit 4 = .ok (.istore_n 2, 1) := by decide +kernel
theorem dX3_readDigit_5 : decode cX3_readDigit 5 = .ok (.iload_n 2, 1) := by decide +kernel
theorem dX3_readDigit_6 : decode cX3_readDigit 6 = .ok (.iconst (-1), 1) := by decide +kernel
theorem dX3_readDigit_7 : decode cX3_readDigit 7 = .ok (.if_icmp .ne 5, 3) := by decide +kernel
theorem dX3_readDigit_10 : decode cX3_readDigit 10 = .ok (.iconst 0, 1) := by decide +kernel
theorem dX3_readDigit_11 : decode cX3_readDigit 11 = .ok (.ireturn, 1) := by decide +kernel
theorem dX3_readDigit_12 : decode cX3_readDigit 12 = .ok (.aload_n 1, 1) := by decide +kernel
theorem dX3_readDigit_13 : decode cX3_readDigit 13 = .ok (.iload_n 2, 1) := by decide +kernel
theorem dX3_readDigit_14 : decode cX3_readDigit 14 = .ok (.invokevirtual 102, 3) := by decide +kernel
theorem dX3_readDigit_17 : decode cX3_readDigit 17 = .ok (.iconst 1, 1) := by decide +kernel
theorem dX3_readDigit_18 : decode cX3_readDigit 18 = .ok (.ireturn, 1) := by decide +kernel
theorem dX3_readNumber_0 : decode cX3_readNumber 0 = .ok (.aload_n 0, 1) := by decide +kernel
theorem dX3_readNumber_1 : decode cX3_readNumber 1 = .ok (.invokevirtual 110, 3) := by decide +kernel
theorem dX3_readNumber_4 : decode cX3_readNumber 4 = .ok (.istore_n 2, 1) := by decide +kernel
theorem dX3_readNumber_5 : decode cX3_readNumber 5 = .ok (.iload_n 2, 1) := by decide +kernel
theorem dX3_readNumber_6 : decode cX3_readNumber 6 = .ok (.iconst (-1), 1) := by decide +kernel
theorem dX3_readNumber_7 : decode cX3_readNumber 7 = .ok (.if_icmp .ne 5, 3) := by decide +kernel
theorem dX3_readNumber_10 : decode cX3_readNumber 10 = .ok (.iconst 0, 1) := by decide +kernel
theorem dX3_readNumber_11 : decode cX3_readNumber 11 = .ok (.ireturn, 1) := by decide +kernel
theorem dX3_readNumber_12 : decode cX3_readNumber 12 = .ok (.aload_n 0, 1) := by decide +kernel
theorem dX3_readNumber_13 : decode cX3_readNumber 13 = .ok (.invokevirtual 110, 3) := by decide +kernel
theorem dX3_readNumber_16 : decode cX3_readNumber 16 = .ok (.istore_n 3, 1) := by decide +kernel
theorem dX3_readNumber_17 : decode cX3_readNumber 17 = .ok (.aload_n 1, 1) := by decide +kernel
theorem dX3_readNumber_18 : decode cX3_readNumber 18 = .ok (.iload_n 3, 1) := by decide +kernel
theorem dX3_readNumber_19 : decode cX3_readNumber 19 = .ok (.iconst (-1), 1) := by decide +kernel
theorem dX3_readNumber_20 : decode cX3_readNumber 20 = .ok (.if_icmp .ne 7, 3) := by decide +kernel
theorem dX3_readNumber_23 : decode cX3_readNumber 23 = .ok (.iload_n 2, 1) := by decide +kernel
theorem dX3_readNumber_24 : decode cX3_readNumber 24 = .ok (.goto 9, 3) := by decide +kernel
theorem dX3_readNumber_27 : decode cX3_readNumber 27 = .ok (.bipush 10, 2) := by decide +kernel
theorem dX3_readNumber_29 : decode cX3_readNumber 29 = .ok (.iload_n 2, 1) := by decide +kernel
theorem dX3_readNumber_30 : decode cX3_readNumber 30 = .ok (.imul, 1) := by decide +kernel
theorem dX3_readNumber_31 : decode cX3_readNumber 31 = .ok (.iload_n 3, 1) := by decide +kernel
theorem dX3_readNumber_32 : decode cX3_readNumber 32 = .ok (.iadd, 1) := by decide +kernel
theorem dX3_readNumber_33 : decode cX3_readNumber 33 = .ok (.invokevirtual 102, 3) := by decide +kernel
theorem dX3_readNumber_36 : decode cX3_readNumber 36 = .ok (.iconst 1, 1) := by decide +kernel
theorem dX3_readNumber_37 : decode cX3_readNumber 37 = .ok (.ireturn, 1) := by decide +kernel
theorem dX3_readSign_0 : decode cX3_readSign 0 = .ok (.aload_n 0, 1) := by decide +kernel
theorem dX3_readSign_1 : decode cX3_readSign 1 = .ok (.getfield 12, 3) := by decide +kernel
theorem dX3_readSign_4 : decode cX3_readSign 4 = .ok (.aload_n 0, 1) := by decide +kernel
theorem dX3_readSign_5 : decode cX3_readSign 5 = .ok (.getfield 28, 3) := by decide +kernel
theorem dX3_readSign_8 : decode cX3_readSign 8 = .ok (.invokevirtual 86, 3) := by decide +kernel
theorem dX3_readSign_11 : decode cX3_readSign 11 = .ok (.istore_n 2, 1) := by decide +kernel
theorem dX3_readSign_12 : decode cX3_readSign 12 = .ok (.iload_n 2, 1) := by decide +kernel
theorem dX3_readSign_13 : decode cX3_readSign 13 = .ok (.bipush 43, 2) := by decide +kernel
theorem dX3_readSign_15 : decode cX3_readSign 15 = .ok (.if_icmp .eq 11, 3) := by decide +kernel
theorem dX3_readSign_18 : decode cX3_readSign 18 = .ok (.iload_n 2, 1) := by decide +kernel
theorem dX3_readSign_19 : decode cX3_readSign 19 = .ok (.bipush 45, 2) := by decide +kernel
theorem dX3_readSign_21 : decode cX3_readSign 21 = .ok (.if_icmp .eq 5, 3) := by decide +kernel
theorem dX3_readSign_24 : decode cX3_readSign 24 = .ok (.iconst 0, 1) := by decide +kernel
theorem dX3_readSign_25 : decode cX3_readSign 25 = .ok (.ireturn, 1) := by decide +kernel
theorem dX3_readSign_26 : decode cX3_readSign 26 = .ok (.aload_n 1, 1) := by decide +kernel
theorem dX3_readSign_27 : decode cX3_readSign 27 = .ok (.iload_n 2, 1) := by decide +kernel
theorem dX3_readSign_28 : decode cX3_readSign 28 = .ok (.bipush 43, 2) := by decide +kernel
theorem dX3_readSign_30 : decode cX3_readSign 30 = .ok (.if_icmp .ne 7, 3) := by decide +kernel
theorem dX3_readSign_33 : decode cX3_readSign 33 = .ok (.iconst 1, 1) := by decide +kernel
theorem dX3_readSign_34 : decode cX3_readSign 34 = .ok (.goto 4, 3) := by decide +kernel
theorem dX3_readSign_37 : decode cX3_readSign 37 = .ok (.iconst (-1), 1) := by decide +kernel
theorem dX3_readSign_38 : decode cX3_readSign 38 = .ok (.invokevirtual 102, 3) := by decide +kernel
theorem dX3_readSign_41 : decode cX3_readSign 41 = .ok (.aload_n 0, 1) := by decide +kernel
theorem dX3_readSign_42 : decode cX3_readSign 42 = .ok (.dup, 1) := by decide +kernel
theorem dX3_readSign_43 : decode cX3_readSign 43 = .ok (.getfield 28, 3) := by decide +kernel
theorem dX3_readSign_46 : decode cX3_readSign 46 = .ok (.iconst 1, 1) := by decide +kernel
theorem dX3_readSign_47 : decode cX3_readSign 47 = .ok (.iadd, 1) := by decide +kernel
theorem dX3_readSign_48 : decode cX3_readSign 48 = .ok (.putfield 28, 3) := by decide +kernel
theorem dX3_readSign_51 : decode cX3_readSign 51 = .ok (.iconst 1, 1) := by decide +kernel
theorem dX3_readSign_52 : decode cX3_readSign 52 = .ok (.ireturn, 1) := by decide +kernel
theorem dX3_takeDigit_0 : decode cX3_takeDigit 0 = .ok (.aload_n 0, 1) := by decide +kernel
theorem dX3_takeDigit_1 : decode cX3_takeDigit 1 = .ok (.getfield 12, 3) := by decide +kernel
theorem dX3_takeDigit_4 : decode cX3_takeDigit 4 = .ok (.aload_n 0, 1) := by decide +kernel
theorem dX3_takeDigit_5 : decode cX3_takeDigit 5 = .ok (.getfield 28, 3) := by decide +kernel
theorem dX3_takeDigit_8 : decode cX3_takeDigit 8 = .ok (.invokevirtual 86, 3) := by decide +kernel
theorem dX3_takeDigit_11 : decode cX3_takeDigit 11 = .ok (.istore_n 1, 1) := by decide +kernel
theorem dX3_takeDigit_12 : decode cX3_takeDigit 12 = .ok (.iload_n 1, 1) := by decide +kernel
theorem dX3_takeDigit_13 : decode cX3_takeDigit 13 = .ok (.bipush 48, 2) := by decide +kernel
theorem dX3_takeDigit_15 : decode cX3_takeDigit 15 = .ok (.if_icmp .lt 9, 3) := by decide +kernel
theorem dX3_takeDigit_18 : decode cX3_takeDigit 18 = .ok (.iload_n 1, 1) := by decide +kernel
theorem dX3_takeDigit_19 : decode cX3_takeDigit 19 = .ok (.bipush 57, 2) := by decide +kernel
theorem dX3_takeDigit_21 : decode cX3_takeDigit 21 = .ok (.if_icmp .le 5, 3) := by decide +kernel
theorem dX3_takeDigit_24 : decode cX3_takeDigit 24 = .ok (.iconst (-1), 1) := by decide +kernel
theorem dX3_takeDigit_25 : decode cX3_takeDigit 25 = .ok (.ireturn, 1) := by decide +kernel
theorem dX3_takeDigit_26 : decode cX3_takeDigit 26 = .ok (.aload_n 0, 1) := by decide +kernel
theorem dX3_takeDigit_27 : decode cX3_takeDigit 27 = .ok (.dup, 1) := by decide +kernel
theorem dX3_takeDigit_28 : decode cX3_takeDigit 28 = .ok (.getfield 28, 3) := by decide +kernel
theorem dX3_takeDigit_31 : decode cX3_takeDigit 31 = .ok (.iconst 1, 1) := by decide +kernel
theorem dX3_takeDigit_32 : decode cX3_takeDigit 32 = .ok (.iadd, 1) := by decide +kernel
theorem dX3_takeDigit_33 : decode cX3_takeDigit 33 = .ok (.putfield 28, 3) := by decide +kernel
theorem dX3_takeDigit_36 : decode cX3_takeDigit 36 = .ok (.iload_n 1, 1) := by decide +kernel
theorem dX3_takeDigit_37 : decode cX3_takeDigit 37 = .ok (.bipush 48, 2) := by decide +kernel
theorem dX3_takeDigit_39 : decode cX3_takeDigit 39 = .ok (.isub, 1) := by decide +kernel
theorem dX3_takeDigit_40 : decode cX3_takeDigit 40 = .ok (.ireturn, 1) := by decide +kernel
theorem dX3_take_0 : decode cX3_take 0 = .ok (.aload_n 0, 1) := by decide +kernel
theorem dX3_take_1 : decode cX3_take 1 = .ok (.getfield 12, 3) := by decide +kernel
theorem dX3_take_4 : decode cX3_take 4 = .ok (.aload_n 0, 1) := by decide +kernel
theorem dX3_take_5 : decode cX3_take 5 = .ok (.getfield 28, 3) := by decide +kernel
theorem dX3_take_8 : decode cX3_take 8 = .ok (.invokevirtual 86, 3) := by decide +kernel
theorem dX3_take_11 : decode cX3_take 11 = .ok (.iload_n 1, 1) := by decide +kernel
theorem dX3_take_12 : decode cX3_take 12 = .ok (.if_icmp .eq 5, 3) := by decide +kernel
theorem dX3_take_15 : decode cX3_take 15 = .ok (.iconst 0, 1) := by decide +kernel
theorem dX3_take_16 : decode cX3_take 16 = .ok (.ireturn, 1) := by decide +kernel
theorem dX3_take_17 : decode cX3_take 17 = .ok (.aload_n 0, 1) := by decide +kernel
theorem dX3_take_18 : decode cX3_take 18 = .ok (.dup, 1) := by decide +kernel
theorem dX3_take_19 : decode cX3_take 19 = .ok (.getfield 28, 3) := by decide +kernel
theorem dX3_take_22 : decode cX3_take 22 = .ok (.iconst 1, 1) := by decide +kernel
theorem dX3_take_23 : decode cX3_take 23 = .ok (.iadd, 1) := by decide +kernel
theorem dX3_take_24 : decode cX3_take 24 = .ok (.putfield 28, 3) := by decide +kernel
theorem dX3_take_27 : decode cX3_take 27 = .ok (.iconst 1, 1) := by decide +kernel
theorem dX3_take_28 : decode cX3_take 28 = .ok (.ireturn, 1) := by decide +kernel
theorem dX4_init_0 : decode cX4_init 0 = .ok (.aload_n 0, 1) := by decide +kernel
theorem dX4_init_1 : decode cX4_init 1 = .ok (.invokespecial 3, 3) := by decide +kernel
theorem dX4_init_4 : decode cX4_init 4 = .ok (.aload_n 0, 1) := by decide +kernel
theorem dX4_init_5 : decode cX4_init 5 = .ok (.bipush 115, 2) := by decide +kernel
theorem dX4_init_7 : decode cX4_init 7 = .ok (.putfield 9, 3) := by decide +kernel
theorem dX4_init_10 : decode cX4_init 10 = .ok (.aload_n 0, 1) := by decide +kernel
theorem dX4_init_11 : decode cX4_init 11 = .ok (.iconst 1, 1) := by decide +kernel
theorem dX4_init_12 : decode cX4_init 12 = .ok (.putfield 15, 3) := by decide +kernel
theorem dX4_init_15 : decode cX4_init 15 = .ok (.aload_n 0, 1) := by decide +kernel
theorem dX4_init_16 : decode cX4_init 16 = .ok (.iconst 1, 1) := by decide +kernel
theorem dX4_init_17 : decode cX4_init 17 = .ok (.putfield 19, 3) := by decide +kernel
theorem dX4_init_20 : decode cX4_init 20 = .ok (.aload_n 0, 1) := by decide +kernel
theorem dX4_init_21 : decode cX4_init 21 = .ok (.bipush 36, 2) := by decide +kernel
theorem dX4_init_23 : decode cX4_init 23 = .ok (.newarray .int, 2) := by decide +kernel
theorem dX4_init_25 : decode cX4_init 25 = .ok (.putfield 22, 3) := by decide +kernel
theorem dX4_init_28 : decode cX4_init 28 = .ok (.aload_n 0, 1) := by decide +kernel
theorem dX4_init_29 : decode cX4_init 29 = .ok (.iconst 0, 1) := by decide +kernel
theorem dX4_init_30 : decode cX4_init 30 = .ok (.putfield 26, 3) := by decide +kernel
theorem dX4_init_33 : decode cX4_init 33 = .ok (.aload_n 0, 1) := by decide +kernel
theorem dX4_init_34 : decode cX4_init 34 = .ok (.iconst 0, 1) := by decide +kernel
theorem dX4_init_35 : decode cX4_init 35 = .ok (.putfield 29, 3) := by decide +kernel
theorem dX4_init_38 : decode cX4_init 38 = .ok (.aload_n 0, 1) := by decide +kernel
theorem dX4_init_39 : decode cX4_init 39 = .ok (.iconst 0, 1) := by decide +kernel
theorem dX4_init_40 : decode cX4_init 40 = .ok (.putfield 32, 3) := by decide +kernel
theorem dX4_init_43 : decode cX4_init 43 = .ok (.aload_n 0, 1) := by decide +kernel
theorem dX4_init_44 : decode cX4_init 44 = .ok (.iconst 0, 1) := by decide +kernel
theorem dX4_init_45 : decode cX4_init 45 = .ok (.putfield 35, 3) := by decide +kernel
theorem dX4_init_48 : decode cX4_init 48 = .ok (.return_, 1) := by decide +kernel
theorem dX4_begin_0 : decode cX4_begin 0 = .ok (.aload_n 0, 1) := by decide +kernel
theorem dX4_begin_1 : decode cX4_begin 1 = .ok (.iload_n 1, 1) := by decide +kernel
theorem dX4_begin_2 : decode cX4_begin 2 = .ok (.putfield 9, 3) := by decide +kernel
theorem dX4_begin_5 : decode cX4_begin 5 = .ok (.aload_n 0, 1) := by decide +kernel
theorem dX4_begin_6 : decode cX4_begin 6 = .ok (.iload_n 2, 1) := by decide +kernel
theorem dX4_begin_7 : decode cX4_begin 7 = .ok (.putfield 15, 3) := by decide +kernel
theorem dX4_begin_10 : decode cX4_begin 10 = .ok (.aload_n 0, 1) := by decide +kernel
theorem dX4_begin_11 : decode cX4_begin 11 = .ok (.iload_n 3, 1) := by decide +kernel
theorem dX4_begin_12 : decode cX4_begin 12 = .ok (.putfield 19, 3) := by decide +kernel
theorem dX4_begin_15 : decode cX4_begin 15 = .ok (.iconst 0, 1) := by decide +kernel
theorem dX4_begin_16 : decode cX4_begin 16 = .ok (.istore 4, 2) := by decide +kernel
theorem dX4_begin_18 : decode cX4_begin 18 = .ok (.iload 4, 2) := by decide +kernel
theorem dX4_begin_20 : decode cX4_begin 20 = .ok (.aload_n 0, 1) := by decide +kernel
theorem dX4_begin_21 : decode cX4_begin 21 = .ok (.getfield 22, 3) := by decide +kernel
theorem dX4_begin_24 : decode cX4_begin 24 = .ok (.arraylength, 1) := by decide +kernel
theorem dX4_begin_25 : decode cX4_begin 25 = .ok (.if_icmp .ge 17, 3) := by decide +kernel
theorem dX4_begin_28 : decode cX4_begin 28 = .ok (.aload_n 0, 1) := by decide +kernel
theorem dX4_begin_29 : decode cX4_begin 29 = .ok (.getfield 22, 3) := by decide +kernel
theorem dX4_begin_32 : decode cX4_begin 32 = .ok (.iload 4, 2) := by decide +kernel
theorem dX4_begin_34 : decode cX4_begin 34 = .ok (.iconst 0, 1) := by decide +kernel
theorem dX4_begin_35 : decode cX4_begin 35 = .ok (.iastore, 1) := by decide +kernel
theorem dX4_begin_36 : decode cX4_begin 36 = .ok (.iinc 4 1, 3) := by decide +kernel
theorem dX4_begin_39 : decode cX4_begin 39 = .ok (.goto (-21), 3) := by decide +kernel
theorem dX4_begin_42 : decode cX4_begin 42 = .ok (.aload_n 0, 1) := by decide +kernel
theorem dX4_begin_43 : decode cX4_begin 43 = .ok (.iconst 0, 1) := by decide +kernel
theorem dX4_begin_44 : decode cX4_begin 44 = .ok (.putfield 26, 3) := by decide +kernel
theorem dX4_begin_47 : decode cX4_begin 47 = .ok (.aload_n 0, 1) := by decide +kernel
theorem dX4_begin_48 : decode cX4_begin 48 = .ok (.iconst 0, 1) := by decide +kernel
theorem dX4_begin_49 : decode cX4_begin 49 = .ok (.putfield 29, 3) := by decide +kernel
theorem dX4_begin_52 : decode cX4_begin 52 = .ok (.aload_n 0, 1) := by decide +kernel
theorem dX4_begin_53 : decode cX4_begin 53 = .ok (.iconst 0, 1) := by decide +kernel
theorem dX4_begin_54 : decode cX4_begin 54 = .ok (.putfield 32, 3) := by decide +kernel
theorem dX4_begin_57 : decode cX4_begin 57 = .ok (.aload_n 0, 1) := by decide +kernel
theorem dX4_begin_58 : decode cX4_begin 58 = .ok (.iconst 0, 1) := by decide +kernel
theorem dX4_begin_59 : decode cX4_begin 59 = .ok (.putfield 35, 3) := by decide +kernel
theorem dX4_begin_62 : decode cX4_begin 62 = .ok (.return_, 1) := by decide +kernel
theorem dX4_copyFrom_0 : decode cX4_copyFrom 0 = .ok (.aload_n 0, 1) := by decide +kernel
theorem dX4_copyFrom_1 : decode cX4_copyFrom 1 = .ok (.aload_n 1, 1) := by decide +kernel
theorem dX4_copyFrom_2 : decode cX4_copyFrom 2 = .ok (.getfield 9, 3) := by decide +kernel
theorem dX4_copyFrom_5 : decode cX4_copyFrom 5 = .ok (.putfield 9, 3) := by decide +kernel
theorem dX4_copyFrom_8 : decode cX4_copyFrom 8 = .ok (.aload_n 0, 1) := by decide +kernel
theorem dX4_copyFrom_9 : decode cX4_copyFrom 9 = .ok (.aload_n 1, 1) := by decide +kernel
theorem dX4_copyFrom_10 : decode cX4_copyFrom 10 = .ok (.getfield 15, 3) := by decide +kernel
theorem dX4_copyFrom_13 : decode cX4_copyFrom 13 = .ok (.putfield 15, 3) := by decide +kernel
theorem dX4_copyFrom_16 : decode cX4_copyFrom 16 = .ok (.aload_n 0, 1) := by decide +kernel
theorem dX4_copyFrom_17 : decode cX4_copyFrom 17 = .ok (.aload_n 1, 1) := by decide +kernel
theorem dX4_copyFrom_18 : decode cX4_copyFrom 18 = .ok (.getfield 19, 3) := by decide +kernel
theorem dX4_copyFrom_21 : decode cX4_copyFrom 21 = .ok (.putfield 19, 3) := by decide +kernel
theorem dX4_copyFrom_24 : decode cX4_copyFrom 24 = .ok (.aload_n 1, 1) := by decide +kernel
theorem dX4_copyFrom_25 : decode cX4_copyFrom 25 = .ok (.getfield 22, 3) := by decide +kernel
theorem dX4_copyFrom_28 : decode cX4_copyFrom 28 = .ok (.iconst 0, 1) := by decide +kernel
theorem dX4_copyFrom_29 : decode cX4_copyFrom 29 = .ok (.aload_n 0, 1) := by decide +kernel
theorem dX4_copyFrom_30 : decode cX4_copyFrom 30 = .ok (.getfield 22, 3) := by decide +kernel
theorem dX4_copyFrom_33 : decode cX4_copyFrom 33 = .ok (.iconst 0, 1) := by decide +kernel
theorem dX4_copyFrom_34 : decode cX4_copyFrom 34 = .ok (.aload_n 0, 1) := by decide +kernel
theorem dX4_copyFrom_35 : decode cX4_copyFrom 35 = .ok (.getfield 22, 3) := by decide +kernel
theorem dX4_copyFrom_38 : decode cX4_copyFrom 38 = .ok (.arraylength, 1) := by decide +kernel
theorem dX4_copyFrom_39 : decode cX4_copyFrom 39 = .ok (.invokestatic 38, 3) := by decide +kernel
theorem dX4_copyFrom_42 : decode cX4_copyFrom 42 = .ok (.aload_n 0, 1) := by decide +kernel
theorem dX4_copyFrom_43 : decode cX4_copyFrom 43 = .ok (.aload_n 1, 1) := by decide +kernel
theorem dX4_copyFrom_44 : decode cX4_copyFrom 44 = .ok (.getfield 26, 3) := by decide +kernel
theorem dX4_copyFrom_47 : decode cX4_copyFrom 47 = .ok (.putfield 26, 3) := by decide +kernel
theorem dX4_copyFrom_50 : decode cX4_copyFrom 50 = .ok (.aload_n 0, 1) := by decide +kernel
theorem dX4_copyFrom_51 : decode cX4_copyFrom 51 = .ok (.aload_n 1, 1) := by decide +kernel
theorem dX4_copyFrom_52 : decode cX4_copyFrom 52 = .ok (.getfield 29, 3) := by decide +kernel
theorem dX4_copyFrom_55 : decode cX4_copyFrom 55 = .ok (.putfield 29, 3) := by decide +kernel
theorem dX4_copyFrom_58 : decode cX4_copyFrom 58 = .ok (.aload_n 0, 1) := by decide +kernel
theorem dX4_copyFrom_59 : decode cX4_copyFrom 59 = .ok (.aload_n 1, 1) := by decide +kernel
theorem dX4_copyFrom_60 : decode cX4_copyFrom 60 = .ok (.getfield 32, 3) := by decide +kernel
theorem dX4_copyFrom_63 : decode cX4_copyFrom 63 = .ok (.putfield 32, 3) := by decide +kernel
theorem dX4_copyFrom_66 : decode cX4_copyFrom 66 = .ok (.aload_n 0, 1) := by decide +kernel
theorem dX4_copyFrom_67 : decode cX4_copyFrom 67 = .ok (.aload_n 1, 1) := by decide +kernel
theorem dX4_copyFrom_68 : decode cX4_copyFrom 68 = .ok (.getfield 35, 3) := by decide +kernel
theorem dX4_copyFrom_71 : decode cX4_copyFrom 71 = .ok (.putfield 35, 3) := by decide +kernel
theorem dX4_copyFrom_74 : decode cX4_copyFrom 74 = .ok (.return_, 1) := by decide +kernel
theorem dX4_hasRow_0 : decode cX4_hasRow 0 = .ok (.iload_n 1, 1) := by decide +kernel
theorem dX4_hasRow_1 : decode cX4_hasRow 1 = .ok (.ifCond .lt 21, 3) := by decide +kernel
theorem dX4_hasRow_4 : decode cX4_hasRow 4 = .ok (.iload_n 1, 1) := by decide +kernel
theorem dX4_hasRow_5 : decode cX4_hasRow 5 = .ok (.aload_n 0, 1) := by decide +kernel
theorem dX4_hasRow_6 : decode cX4_hasRow 6 = .ok (.getfield 15, 3) := by decide +kernel
theorem dX4_hasRow_9 : decode cX4_hasRow 9 = .ok (.if_icmp .ge 13, 3) := by decide +kernel
theorem dX4_hasRow_12 : decode cX4_hasRow 12 = .ok (.iload_n 1, 1) := by decide +kernel
theorem dX4_hasRow_13 : decode cX4_hasRow 13 = .ok (.bipush 6, 2) := by decide +kernel
theorem dX4_hasRow_15 : decode cX4_hasRow 15 = .ok (.if_icmp .ge 7, 3) := by decide +kernel
theorem dX4_hasRow_18 : decode cX4_hasRow 18 = .ok (.iconst 1, 1) := by decide +kernel
theorem dX4_hasRow_19 : decode cX4_hasRow 19 = .ok (.goto 4, 3) := by decide +kernel
theorem dX4_hasRow_22 : decode cX4_hasRow 22 = .ok (.iconst 0, 1) := by decide +kernel
theorem dX4_hasRow_23 : decode cX4_hasRow 23 = .ok (.ireturn, 1) := by decide +kernel
theorem dX4_hasColumn_0 : decode cX4_hasColumn 0 = .ok (.iload_n 1, 1) := by decide +kernel
theorem dX4_hasColumn_1 : decode cX4_hasColumn 1 = .ok (.ifCond .lt 21, 3) := by decide +kernel
theorem dX4_hasColumn_4 : decode cX4_hasColumn 4 = .ok (.iload_n 1, 1) := by decide +kernel
theorem dX4_hasColumn_5 : decode cX4_hasColumn 5 = .ok (.aload_n 0, 1) := by decide +kernel
theorem dX4_hasColumn_6 : decode cX4_hasColumn 6 = .ok (.getfield 19, 3) := by decide +kernel
theorem dX4_hasColumn_9 : decode cX4_hasColumn 9 = .ok (.if_icmp .ge 13, 3) := by decide +kernel
theorem dX4_hasColumn_12 : decode cX4_hasColumn 12 = .ok (.iload_n 1, 1) := by decide +kernel
theorem dX4_hasColumn_13 : decode cX4_hasColumn 13 = .ok (.bipush 6, 2) := by decide +kernel
theorem dX4_hasColumn_15 : decode cX4_hasColumn 15 = .ok (.if_icmp .ge 7, 3) := by decide +kernel
theorem dX4_hasColumn_18 : decode cX4_hasColumn 18 = .ok (.iconst 1, 1) := by decide +kernel
theorem dX4_hasColumn_19 : decode cX4_hasColumn 19 = .ok (.goto 4, 3) := by decide +kernel
theorem dX4_hasColumn_22 : decode cX4_hasColumn 22 = .ok (.iconst 0, 1) := by decide +kernel
theorem dX4_hasColumn_23 : decode cX4_hasColumn 23 = .ok (.ireturn, 1) := by decide +kernel
theorem dX4_hasPlace_0 : decode cX4_hasPlace 0 = .ok (.aload_n 0, 1) := by decide +kernel
theorem dX4_hasPlace_1 : decode cX4_hasPlace 1 = .ok (.iload_n 1, 1) := by decide +kernel
theorem dX4_hasPlace_2 : decode cX4_hasPlace 2 = .ok (.invokevirtual 44, 3) := by decide +kernel
theorem dX4_hasPlace_5 : decode cX4_hasPlace 5 = .ok (.ifCond .eq 15, 3) := by decide +kernel
theorem dX4_hasPlace_8 : decode cX4_hasPlace 8 = .ok (.aload_n 0, 1) := by decide +kernel
theorem dX4_hasPlace_9 : decode cX4_hasPlace 9 = .ok (.iload_n 2, 1) := by decide +kernel
theorem dX4_hasPlace_10 : decode cX4_hasPlace 10 = .ok (.invokevirtual 48, 3) := by decide +kernel
theorem dX4_hasPlace_13 : decode cX4_hasPlace 13 = .ok (.ifCond .eq 7, 3) := by decide +kernel
theorem dX4_hasPlace_16 : decode cX4_hasPlace 16 = .ok (.iconst 1, 1) := by decide +kernel
theorem dX4_hasPlace_17 : decode cX4_hasPlace 17 = .ok (.goto 4, 3) := by decide +kernel
theorem dX4_hasPlace_20 : decode cX4_hasPlace 20 = .ok (.iconst 0, 1) := by decide +kernel
theorem dX4_hasPlace_21 : decode cX4_hasPlace 21 = .ok (.ireturn, 1) := by decide +kernel
theorem dX4_noteAt_0 : decode cX4_noteAt 0 = .ok (.aload_n 0, 1) := by decide +kernel
theorem dX4_noteAt_1 : decode cX4_noteAt 1 = .ok (.iload_n 1, 1) := by decide +kernel
theorem dX4_noteAt_2 : decode cX4_noteAt 2 = .ok (.iload_n 2, 1) := by decide +kernel
theorem dX4_noteAt_3 : decode cX4_noteAt 3 = .ok (.invokevirtual 51, 3) := by decide +kernel
theorem dX4_noteAt_6 : decode cX4_noteAt 6 = .ok (.ifCond .eq 17, 3) := by decide +kernel
theorem dX4_noteAt_9 : decode cX4_noteAt 9 = .ok (.aload_n 0, 1) := by decide +kernel
theorem dX4_noteAt_10 : decode cX4_noteAt 10 = .ok (.getfield 22, 3) := by decide +kernel
theorem dX4_noteAt_13 : decode cX4_noteAt 13 = .ok (.iload_n 1, 1) := by decide +kernel
theorem dX4_noteAt_14 : decode cX4_noteAt 14 = .ok (.bipush 6, 2) := by decide +kernel
theorem dX4_noteAt_16 : decode cX4_noteAt 16 = .ok (.imul, 1) := by decide +kernel
theorem dX4_noteAt_17 : decode cX4_noteAt 17 = .ok (.iload_n 2, 1) := by decide +kernel
theorem dX4_noteAt_18 : decode cX4_noteAt 18 = .ok (.iadd, 1) := by decide +kernel
theorem dX4_noteAt_19 : decode cX4_noteAt 19 = .ok (.iaload, 1) := by decide +kernel
theorem dX4_noteAt_20 : decode cX4_noteAt 20 = .ok (.goto 4, 3) := by decide +kernel
theorem dX4_noteAt_23 : decode cX4_noteAt 23 = .ok (.iconst 0, 1) := by decide +kernel
theorem dX4_noteAt_24 : decode cX4_noteAt 24 = .ok (.ireturn, 1) := by decide +kernel
theorem dX4_putNote_0 : decode cX4_putNote 0 = .ok (.aload_n 0, 1) := by decide +kernel
theorem dX4_putNote_1 : decode cX4_putNote 1 = .ok (.iload_n 1, 1) := by decide +kernel
theorem dX4_putNote_2 : decode cX4_putNote 2 = .ok (.iload_n 2, 1) := by decide +kernel
theorem dX4_putNote_3 : decode cX4_putNote 3 = .ok (.invokevirtual 51, 3) := by decide +kernel
theorem dX4_putNote_6 : decode cX4_putNote 6 = .ok (.ifCond .eq 15, 3) := by decide +kernel
theorem dX4_putNote_9 : decode cX4_putNote 9 = .ok (.aload_n 0, 1) := by decide +kernel
theorem dX4_putNote_10 : decode cX4_putNote 10 = .ok (.getfield 22, 3) := by decide +kernel
theorem dX4_putNote_13 : decode cX4_putNote 13 = .ok (.iload_n 1, 1) := by decide +kernel
theorem dX4_putNote_14 : decode cX4_putNote 14 = .ok (.bipush 6, 2) := by decide +kernel
theorem dX4_putNote_16 : decode cX4_putNote 16 = .ok (.imul, 1) := by decide +kernel
theorem dX4_putNote_17 : decode cX4_putNote 17 = .ok (.iload_n 2, 1) := by decide +kernel
theorem dX4_putNote_18 : decode cX4_putNote 18 = .ok (.iadd, 1) := by decide +kernel
theorem dX4_putNote_19 : decode cX4_putNote 19 = .ok (.iload_n 3, 1) := by decide +kernel
theorem dX4_putNote_20 : decode cX4_putNote 20 = .ok (.iastore, 1) := by decide +kernel
theorem dX4_putNote_21 : decode cX4_putNote 21 = .ok (.return_, 1) := by decide +kernel
theorem dX4_hasScoreOf_0 : decode cX4_hasScoreOf 0 = .ok (.aload_n 0, 1) := by decide +kernel
theorem dX4_hasScoreOf_1 : decode cX4_hasScoreOf 1 = .ok (.getfield 15, 3) := by decide +kernel
theorem dX4_hasScoreOf_4 : decode cX4_hasScoreOf 4 = .ok (.aload_n 1, 1) := by decide +kernel
theorem dX4_hasScoreOf_5 : decode cX4_hasScoreOf 5 = .ok (.getfield 15, 3) := by decide +kernel
theorem dX4_hasScoreOf_8 : decode cX4_hasScoreOf 8 = .ok (.if_icmp .ne 14, 3) := by decide +kernel
theorem dX4_hasScoreOf_11 : decode cX4_hasScoreOf 11 = .ok (.aload_n 0, 1) := by decide +kernel
theorem dX4_hasScoreOf_12 : decode cX4_hasScoreOf 12 = .ok (.getfield 19, 3) := by decide +kernel
theorem dX4_hasScoreOf_15 : decode cX4_hasScoreOf 15 = .ok (.aload_n 1, 1) := by decide +kernel
theorem dX4_hasScoreOf_16 : decode cX4_hasScoreOf 16 = .ok (.getfield 19, 3) := by decide +kernel
theorem dX4_hasScoreOf_19 : decode cX4_hasScoreOf 19 = .ok (.if_icmp .eq 5, 3) := by decide +kernel
theorem dX4_hasScoreOf_22 : decode cX4_hasScoreOf 22 = .ok (.iconst 0, 1) := by decide +kernel
theorem dX4_hasScoreOf_23 : decode cX4_hasScoreOf 23 = .ok (.ireturn, 1) := by decide +kernel
theorem dX4_hasScoreOf_24 : decode cX4_hasScoreOf 24 = .ok (.iconst 0, 1) := by decide +kernel
theorem dX4_hasScoreOf_25 : decode cX4_hasScoreOf 25 = .ok (.istore_n 2, 1) := by decide +kernel
theorem dX4_hasScoreOf_26 : decode cX4_hasScoreOf 26 = .ok (.iload_n 2, 1) := by decide +kernel
theorem dX4_hasScoreOf_27 : decode cX4_hasScoreOf 27 = .ok (.aload_n 0, 1) := by decide +kernel
theorem dX4_hasScoreOf_28 : decode cX4_hasScoreOf 28 = .ok (.getfield 22, 3) := by decide +kernel
theorem dX4_hasScoreOf_31 : decode cX4_hasScoreOf 31 = .ok (.arraylength, 1) := by decide +kernel
theorem dX4_hasScoreOf_32 : decode cX4_hasScoreOf 32 = .ok (.if_icmp .ge 35, 3) := by decide +kernel
theorem dX4_hasScoreOf_35 : decode cX4_hasScoreOf 35 = .ok (.iload_n 2, 1) := by decide +kernel
theorem dX4_hasScoreOf_36 : decode cX4_hasScoreOf 36 = .ok (.aload_n 1, 1) := by decide +kernel
theorem dX4_hasScoreOf_37 : decode cX4_hasScoreOf 37 = .ok (.getfield 22, 3) := by decide +kernel
theorem dX4_hasScoreOf_40 : decode cX4_hasScoreOf 40 = .ok (.arraylength, 1) := by decide +kernel
theorem dX4_hasScoreOf_41 : decode cX4_hasScoreOf 41 = .ok (.if_icmp .ge 26, 3) := by decide +kernel
theorem dX4_hasScoreOf_44 : decode cX4_hasScoreOf 44 = .ok (.aload_n 0, 1) := by decide +kernel
theorem dX4_hasScoreOf_45 : decode cX4_hasScoreOf 45 = .ok (.getfield 22, 3) := by decide +kernel
theorem dX4_hasScoreOf_48 : decode cX4_hasScoreOf 48 = .ok (.iload_n 2, 1) := by decide +kernel
theorem dX4_hasScoreOf_49 : decode cX4_hasScoreOf 49 = .ok (.iaload, 1) := by decide +kernel
theorem dX4_hasScoreOf_50 : decode cX4_hasScoreOf 50 = .ok (.aload_n 1, 1) := by decide +kernel
theorem dX4_hasScoreOf_51 : decode cX4_hasScoreOf 51 = .ok (.getfield 22, 3) := by decide +kernel
theorem dX4_hasScoreOf_54 : decode cX4_hasScoreOf 54 = .ok (.iload_n 2, 1) := by decide +kernel
theorem dX4_hasScoreOf_55 : decode cX4_hasScoreOf 55 = .ok (.iaload, 1) := by decide +kernel
theorem dX4_hasScoreOf_56 : decode cX4_hasScoreOf 56 = .ok (.if_icmp .eq 5, 3) := by decide +kernel
theorem dX4_hasScoreOf_59 : decode cX4_hasScoreOf 59 = .ok (.iconst 0, 1) := by decide +kernel
theorem dX4_hasScoreOf_60 : decode cX4_hasScoreOf 60 = .ok (.ireturn, 1) := by decide +kernel
theorem dX4_hasScoreOf_61 : decode cX4_hasScoreOf 61 = .ok (.iinc 2 1, 3) := by decide +kernel
theorem dX4_hasScoreOf_64 : decode cX4_hasScoreOf 64 = .ok (.goto (-38), 3) := by decide +kernel
theorem dX4_hasScoreOf_67 : decode cX4_hasScoreOf 67 = .ok (.iconst 1, 1) := by decide +kernel
theorem dX4_hasScoreOf_68 : decode cX4_hasScoreOf 68 = .ok (.ireturn, 1) := by decide +kernel
theorem dX4_flip_0 : decode cX4_flip 0 = .ok (.iconst 0, 1) := by decide +kernel
theorem dX4_flip_1 : decode cX4_flip 1 = .ok (.istore_n 1, 1) := by decide +kernel
theorem dX4_flip_2 : decode cX4_flip 2 = .ok (.iload_n 1, 1) := by decide +kernel
theorem dX4_flip_3 : decode cX4_flip 3 = .ok (.bipush 6, 2) := by decide +kernel
theorem dX4_flip_5 : decode cX4_flip 5 = .ok (.if_icmp .ge 67, 3) := by decide +kernel
theorem dX4_flip_8 : decode cX4_flip 8 = .ok (.iconst 0, 1) := by decide +kernel
theorem dX4_flip_9 : decode cX4_flip 9 = .ok (.istore_n 2, 1) := by decide +kernel
theorem dX4_flip_10 : decode cX4_flip 10 = .ok (.iload_n 2, 1) := by decide +kernel
theorem dX4_flip_11 : decode cX4_flip 11 = .ok (.iload_n 1, 1) := by decide +kernel
theorem dX4_flip_12 : decode cX4_flip 12 = .ok (.if_icmp .ge 54, 3) := by decide +kernel
theorem dX4_flip_15 : decode cX4_flip 15 = .ok (.iload_n 1, 1) := by decide +kernel
theorem dX4_flip_16 : decode cX4_flip 16 = .ok (.bipush 6, 2) := by decide +kernel
theorem dX4_flip_18 : decode cX4_flip 18 = .ok (.imul, 1) := by decide +kernel
theorem dX4_flip_19 : decode cX4_flip 19 = .ok (.iload_n 2, 1) := by decide +kernel
theorem dX4_flip_20 : decode cX4_flip 20 = .ok (.iadd, 1) := by decide +kernel
theorem dX4_flip_21 : decode cX4_flip 21 = .ok (.istore_n 3, 1) := by decide +kernel
theorem dX4_flip_22 : decode cX4_flip 22 = .ok (.iload_n 2, 1) := by decide +kernel
theorem dX4_flip_23 : decode cX4_flip 23 = .ok (.bipush 6, 2) := by decide +kernel
theorem dX4_flip_25 : decode cX4_flip 25 = .ok (.imul, 1) := by decide +kernel
theorem dX4_flip_26 : decode cX4_flip 26 = .ok (.iload_n 1, 1) := by decide +kernel
theorem dX4_flip_27 : decode cX4_flip 27 = .ok (.iadd, 1) := by decide +kernel
theorem dX4_flip_28 : decode cX4_flip 28 = .ok (.istore 4, 2) := by decide +kernel
theorem dX4_flip_30 : decode cX4_flip 30 = .ok (.aload_n 0, 1) := by decide +kernel
theorem dX4_flip_31 : decode cX4_flip 31 = .ok (.getfield 22, 3) := by decide +kernel
theorem dX4_flip_34 : decode cX4_flip 34 = .ok (.iload_n 3, 1) := by decide +kernel
theorem dX4_flip_35 : decode cX4_flip 35 = .ok (.iaload, 1) := by decide +kernel
theorem dX4_flip_36 : decode cX4_flip 36 = .ok (.istore 5, 2) := by decide +kernel
theorem dX4_flip_38 : decode cX4_flip 38 = .ok (.aload_n 0, 1) := by decide +kernel
theorem dX4_flip_39 : decode cX4_flip 39 = .ok (.getfield 22, 3) := by decide +kernel
theorem dX4_flip_42 : decode cX4_flip 42 = .ok (.iload_n 3, 1) := by decide +kernel
theorem dX4_flip_43 : decode cX4_flip 43 = .ok (.aload_n 0, 1) := by decide +kernel
theorem dX4_flip_44 : decode cX4_flip 44 = .ok (.getfield 22, 3) := by decide +kernel
theorem dX4_flip_47 : decode cX4_flip 47 = .ok (.iload 4, 2) := by decide +kernel
theorem dX4_flip_49 : decode cX4_flip 49 = .ok (.iaload, 1) := by decide +kernel
theorem dX4_flip_50 : decode cX4_flip 50 = .ok (.iastore, 1) := by decide +kernel
theorem dX4_flip_51 : decode cX4_flip 51 = .ok (.aload_n 0, 1) := by decide +kernel
theorem dX4_flip_52 : decode cX4_flip 52 = .ok (.getfield 22, 3) := by decide +kernel
theorem dX4_flip_55 : decode cX4_flip 55 = .ok (.iload 4, 2) := by decide +kernel
theorem dX4_flip_57 : decode cX4_flip 57 = .ok (.iload 5, 2) := by decide +kernel
theorem dX4_flip_59 : decode cX4_flip 59 = .ok (.iastore, 1) := by decide +kernel
theorem dX4_flip_60 : decode cX4_flip 60 = .ok (.iinc 2 1, 3) := by decide +kernel
theorem dX4_flip_63 : decode cX4_flip 63 = .ok (.goto (-53), 3) := by decide +kernel
theorem dX4_flip_66 : decode cX4_flip 66 = .ok (.iinc 1 1, 3) := by decide +kernel
theorem dX4_flip_69 : decode cX4_flip 69 = .ok (.goto (-67), 3) := by decide +kernel
theorem dX4_flip_72 : decode cX4_flip 72 = .ok (.aload_n 0, 1) := by decide +kernel
theorem dX4_flip_73 : decode cX4_flip 73 = .ok (.getfield 15, 3) := by decide +kernel
theorem dX4_flip_76 : decode cX4_flip 76 = .ok (.istore_n 1, 1) := by decide +kernel
theorem dX4_flip_77 : decode cX4_flip 77 = .ok (.aload_n 0, 1) := by decide +kernel
theorem dX4_flip_78 : decode cX4_flip 78 = .ok (.aload_n 0, 1) := by decide +kernel
theorem dX4_flip_79 : decode cX4_flip 79 = .ok (.getfield 19, 3) := by decide +kernel
theorem dX4_flip_82 : decode cX4_flip 82 = .ok (.putfield 15, 3) := by decide +kernel
theorem dX4_flip_85 : decode cX4_flip 85 = .ok (.aload_n 0, 1) := by decide +kernel
theorem dX4_flip_86 : decode cX4_flip 86 = .ok (.iload_n 1, 1) := by decide +kernel
theorem dX4_flip_87 : decode cX4_flip 87 = .ok (.putfield 19, 3) := by decide +kernel
theorem dX4_flip_90 : decode cX4_flip 90 = .ok (.return_, 1) := by decide +kernel
theorem dX4_turn_0 : decode cX4_turn 0 = .ok (.iconst 0, 1) := by decide +kernel
theorem dX4_turn_1 : decode cX4_turn 1 = .ok (.istore_n 1, 1) := by decide +kernel
theorem dX4_turn_2 : decode cX4_turn 2 = .ok (.iconst 0, 1) := by decide +kernel
theorem dX4_turn_3 : decode cX4_turn 3 = .ok (.istore_n 2, 1) := by decide +kernel
theorem dX4_turn_4 : decode cX4_turn 4 = .ok (.iload_n 2, 1) := by decide +kernel
theorem dX4_turn_5 : decode cX4_turn 5 = .ok (.aload_n 0, 1) := by decide +kernel
theorem dX4_turn_6 : decode cX4_turn 6 = .ok (.getfield 15, 3) := by decide +kernel
theorem dX4_turn_9 : decode cX4_turn 9 = .ok (.if_icmp .ge 81, 3) := by decide +kernel
theorem dX4_turn_12 : decode cX4_turn 12 = .ok (.iconst 0, 1) := by decide +kernel
theorem dX4_turn_13 : decode cX4_turn 13 = .ok (.istore_n 3, 1) := by decide +kernel
theorem dX4_turn_14 : decode cX4_turn 14 = .ok (.iload_n 3, 1) := by decide +kernel
theorem dX4_turn_15 : decode cX4_turn 15 = .ok (.aload_n 0, 1) := by decide +kernel
theorem dX4_turn_16 : decode cX4_turn 16 = .ok (.getfield 19, 3) := by decide +kernel
theorem dX4_turn_19 : decode cX4_turn 19 = .ok (.iconst 2, 1) := by decide +kernel
theorem dX4_turn_20 : decode cX4_turn 20 = .ok (.idiv, 1) := by decide +kernel
theorem dX4_turn_21 : decode cX4_turn 21 = .ok (.if_icmp .ge 63, 3) := by decide +kernel
theorem dX4_turn_24 : decode cX4_turn 24 = .ok (.aload_n 0, 1) := by decide +kernel
theorem dX4_turn_25 : decode cX4_turn 25 = .ok (.getfield 19, 3) := by decide +kernel
theorem dX4_turn_28 : decode cX4_turn 28 = .ok (.iconst 1, 1) := by decide +kernel
theorem dX4_turn_29 : decode cX4_turn 29 = .ok (.isub, 1) := by decide +kernel
theorem dX4_turn_30 : decode cX4_turn 30 = .ok (.iload_n 3, 1) := by decide +kernel
theorem dX4_turn_31 : decode cX4_turn 31 = .ok (.isub, 1) := by decide +kernel
theorem dX4_turn_32 : decode cX4_turn 32 = .ok (.istore 4, 2) := by decide +kernel
theorem dX4_turn_34 : decode cX4_turn 34 = .ok (.aload_n 0, 1) := by decide +kernel
theorem dX4_turn_35 : decode cX4_turn 35 = .ok (.iload_n 2, 1) := by decide +kernel
theorem dX4_turn_36 : decode cX4_turn 36 = .ok (.iload_n 3, 1) := by decide +kernel
theorem dX4_turn_37 : decode cX4_turn 37 = .ok (.invokevirtual 55, 3) := by decide +kernel
theorem dX4_turn_40 : decode cX4_turn 40 = .ok (.istore 5, 2) := by decide +kernel
theorem dX4_turn_42 : decode cX4_turn 42 = .ok (.aload_n 0, 1) := by decide +kernel
theorem dX4_turn_43 : decode cX4_turn 43 = .ok (.iload_n 2, 1) := by decide +kernel
theorem dX4_turn_44 : decode cX4_turn 44 = .ok (.iload_n 3, 1) := by decide +kernel
theorem dX4_turn_45 : decode cX4_turn 45 = .ok (.aload_n 0, 1) := by decide +kernel
theorem dX4_turn_46 : decode cX4_turn 46 = .ok (.iload_n 2, 1) := by decide +kernel
theorem dX4_turn_47 : decode cX4_turn 47 = .ok (.iload 4, 2) := by decide +kernel
theorem dX4_turn_49 : decode cX4_turn 49 = .ok (.invokevirtual 55, 3) := by decide +kernel
theorem dX4_turn_52 : decode cX4_turn 52 = .ok (.invokevirtual 59, 3) := by decide +kernel
theorem dX4_turn_55 : decode cX4_turn 55 = .ok (.aload_n 0, 1) := by decide +kernel
theorem dX4_turn_56 : decode cX4_turn 56 = .ok (.iload_n 2, 1) := by decide +kernel
theorem dX4_turn_57 : decode cX4_turn 57 = .ok (.iload 4, 2) := by decide +kernel
theorem dX4_turn_59 : decode cX4_turn 59 = .ok (.iload 5, 2) := by decide +kernel
theorem dX4_turn_61 : decode cX4_turn 61 = .ok (.invokevirtual 59, 3) := by decide +kernel
theorem dX4_turn_64 : decode cX4_turn 64 = .ok (.aload_n 0, 1) := by decide +kernel
theorem dX4_turn_65 : decode cX4_turn 65 = .ok (.iload_n 2, 1) := by decide +kernel
theorem dX4_turn_66 : decode cX4_turn 66 = .ok (.iload_n 3, 1) := by decide +kernel
theorem dX4_turn_67 : decode cX4_turn 67 = .ok (.invokevirtual 55, 3) := by decide +kernel
theorem dX4_turn_70 : decode cX4_turn 70 = .ok (.iload 5, 2) := by decide +kernel
theorem dX4_turn_72 : decode cX4_turn 72 = .ok (.if_icmp .eq 6, 3) := by decide +kernel
theorem dX4_turn_75 : decode cX4_turn 75 = .ok (.iinc 1 2, 3) := by decide +kernel
theorem dX4_turn_78 : decode cX4_turn 78 = .ok (.iinc 3 1, 3) := by decide +kernel
theorem dX4_turn_81 : decode cX4_turn 81 = .ok (.goto (-67), 3) := by decide +kernel
theorem dX4_turn_84 : decode cX4_turn 84 = .ok (.iinc 2 1, 3) := by decide +kernel
theorem dX4_turn_87 : decode cX4_turn 87 = .ok (.goto (-83), 3) := by decide +kernel
theorem dX4_turn_90 : decode cX4_turn 90 = .ok (.iload_n 1, 1) := by decide +kernel
theorem dX4_turn_91 : decode cX4_turn 91 = .ok (.ireturn, 1) := by decide +kernel
theorem dX4_canLift_0 : decode cX4_canLift 0 = .ok (.iconst 0, 1) := by decide +kernel
theorem dX4_canLift_1 : decode cX4_canLift 1 = .ok (.istore_n 2, 1) := by decide +kernel
theorem dX4_canLift_2 : decode cX4_canLift 2 = .ok (.iload_n 2, 1) := by decide +kernel
theorem dX4_canLift_3 : decode cX4_canLift 3 = .ok (.aload_n 0, 1) := by decide +kernel
theorem dX4_canLift_4 : decode cX4_canLift 4 = .ok (.getfield 22, 3) := by decide +kernel
theorem dX4_canLift_7 : decode cX4_canLift 7 = .ok (.arraylength, 1) := by decide +kernel
theorem dX4_canLift_8 : decode cX4_canLift 8 = .ok (.if_icmp .ge 40, 3) := by decide +kernel
theorem dX4_canLift_11 : decode cX4_canLift 11 = .ok (.aload_n 0, 1) := by decide +kernel
theorem dX4_canLift_12 : decode cX4_canLift 12 = .ok (.getfield 22, 3) := by decide +kernel
theorem dX4_canLift_15 : decode cX4_canLift 15 = .ok (.iload_n 2, 1) := by decide +kernel
theorem dX4_canLift_16 : decode cX4_canLift 16 = .ok (.iaload, 1) := by decide +kernel
theorem dX4_canLift_17 : decode cX4_canLift 17 = .ok (.iload_n 1, 1) := by decide +kernel
theorem dX4_canLift_18 : decode cX4_canLift 18 = .ok (.iadd, 1) := by decide +kernel
theorem dX4_canLift_19 : decode cX4_canLift 19 = .ok (.istore_n 3, 1) := by decide +kernel
theorem dX4_canLift_20 : decode cX4_canLift 20 = .ok (.aload_n 0, 1) := by decide +kernel
theorem dX4_canLift_21 : decode cX4_canLift 21 = .ok (.getfield 22, 3) := by decide +kernel
theorem dX4_canLift_24 : decode cX4_canLift 24 = .ok (.iload_n 2, 1) := by decide +kernel
theorem dX4_canLift_25 : decode cX4_canLift 25 = .ok (.iaload, 1) := by decide +kernel
theorem dX4_canLift_26 : decode cX4_canLift 26 = .ok (.ifCond .eq 16, 3) := by decide +kernel
theorem dX4_canLift_29 : decode cX4_canLift 29 = .ok (.iload_n 3, 1) := by decide +kernel
theorem dX4_canLift_30 : decode cX4_canLift 30 = .ok (.iconst 1, 1) := by decide +kernel
theorem dX4_canLift_31 : decode cX4_canLift 31 = .ok (.if_icmp .lt 9, 3) := by decide +kernel
theorem dX4_canLift_34 : decode cX4_canLift 34 = .ok (.iload_n 3, 1) := by decide +kernel
theorem dX4_canLift_35 : decode cX4_canLift 35 = .ok (.bipush 9, 2) := by decide +kernel
theorem dX4_canLift_37 : decode cX4_canLift 37 = .ok (.if_icmp .le 5, 3) := by decide +kernel
theorem dX4_canLift_40 : decode cX4_canLift 40 = .ok (.iconst 0, 1) := by decide +kernel
theorem dX4_canLift_41 : decode cX4_canLift 41 = .ok (.ireturn, 1) := by decide +kernel
theorem dX4_canLift_42 : decode cX4_canLift 42 = .ok (.iinc 2 1, 3) := by decide +kernel
theorem dX4_canLift_45 : decode cX4_canLift 45 = .ok (.goto (-43), 3) := by decide +kernel
theorem dX4_canLift_48 : decode cX4_canLift 48 = .ok (.iconst 1, 1) := by decide +kernel
theorem dX4_canLift_49 : decode cX4_canLift 49 = .ok (.ireturn, 1) := by decide +kernel
theorem dX4_lift_0 : decode cX4_lift 0 = .ok (.iconst 0, 1) := by decide +kernel
theorem dX4_lift_1 : decode cX4_lift 1 = .ok (.istore_n 2, 1) := by decide +kernel
theorem dX4_lift_2 : decode cX4_lift 2 = .ok (.iconst 0, 1) := by decide +kernel
theorem dX4_lift_3 : decode cX4_lift 3 = .ok (.istore_n 3, 1) := by decide +kernel
theorem dX4_lift_4 : decode cX4_lift 4 = .ok (.iload_n 3, 1) := by decide +kernel
theorem dX4_lift_5 : decode cX4_lift 5 = .ok (.aload_n 0, 1) := by decide +kernel
theorem dX4_lift_6 : decode cX4_lift 6 = .ok (.getfield 22, 3) := by decide +kernel
theorem dX4_lift_9 : decode cX4_lift 9 = .ok (.arraylength, 1) := by decide +kernel
theorem dX4_lift_10 : decode cX4_lift 10 = .ok (.if_icmp .ge 31, 3) := by decide +kernel
theorem dX4_lift_13 : decode cX4_lift 13 = .ok (.aload_n 0, 1) := by decide +kernel
theorem dX4_lift_14 : decode cX4_lift 14 = .ok (.getfield 22, 3) := by decide +kernel
theorem dX4_lift_17 : decode cX4_lift 17 = .ok (.iload_n 3, 1) := by decide +kernel
theorem dX4_lift_18 : decode cX4_lift 18 = .ok (.iaload, 1) := by decide +kernel
theorem dX4_lift_19 : decode cX4_lift 19 = .ok (.ifCond .eq 16, 3) := by decide +kernel
theorem dX4_lift_22 : decode cX4_lift 22 = .ok (.aload_n 0, 1) := by decide +kernel
theorem dX4_lift_23 : decode cX4_lift 23 = .ok (.getfield 22, 3) := by decide +kernel
theorem dX4_lift_26 : decode cX4_lift 26 = .ok (.iload_n 3, 1) := by decide +kernel
theorem dX4_lift_27 : decode cX4_lift 27 = .ok (.dup2, 1) := by decide +kernel
theorem dX4_lift_28 : decode cX4_lift 28 = .ok (.iaload, 1) := by decide +kernel
theorem dX4_lift_29 : decode cX4_lift 29 = .ok (.iload_n 1, 1) := by decide +kernel
theorem dX4_lift_30 : decode cX4_lift 30 = .ok (.iadd, 1) := by decide +kernel
theorem dX4_lift_31 : decode cX4_lift 31 = .ok (.iastore, 1) := by decide +kernel
theorem dX4_lift_32 : decode cX4_lift 32 = .ok (.iinc 2 1, 3) := by decide +kernel
theorem dX4_lift_35 : decode cX4_lift 35 = .ok (.iinc 3 1, 3) := by decide +kernel
theorem dX4_lift_38 : decode cX4_lift 38 = .ok (.goto (-34), 3) := by decide +kernel
theorem dX4_lift_41 : decode cX4_lift 41 = .ok (.iload_n 2, 1) := by decide +kernel
theorem dX4_lift_42 : decode cX4_lift 42 = .ok (.ireturn, 1) := by decide +kernel
theorem dX4_volumeOfColumn_0 : decode cX4_volumeOfColumn 0 = .ok (.iconst 0, 1) := by decide +kernel
theorem dX4_volumeOfColumn_1 : decode cX4_volumeOfColumn 1 = .ok (.istore_n 2, 1) := by decide +kernel
theorem dX4_volumeOfColumn_2 : decode cX4_volumeOfColumn 2 = .ok (.iload_n 1, 1) := by decide +kernel
theorem dX4_volumeOfColumn_3 : decode cX4_volumeOfColumn 3 = .ok (.istore_n 3, 1) := by decide +kernel
theorem dX4_volumeOfColumn_4 : decode cX4_volumeOfColumn 4 = .ok (.iload_n 3, 1) := by decide +kernel
theorem dX4_volumeOfColumn_5 : decode cX4_volumeOfColumn 5 = .ok (.ifCond .lt 34, 3) := by decide +kernel
theorem dX4_volumeOfColumn_8 : decode cX4_volumeOfColumn 8 = .ok (.iload_n 3, 1) := by decide +kernel
theorem dX4_volumeOfColumn_9 : decode cX4_volumeOfColumn 9 = .ok (.aload_n 0, 1) := by decide +kernel
theorem dX4_volumeOfColumn_10 : decode cX4_volumeOfColumn 10 = .ok (.getfield 22, 3) := by decide +kernel
theorem dX4_volumeOfColumn_13 : decode cX4_volumeOfColumn 13 = .ok (.arraylength, 1) := by decide +kernel
theorem dX4_volumeOfColumn_14 : decode cX4_volumeOfColumn 14 = .ok (.if_icmp .ge 25, 3) := by decide +kernel
theorem dX4_volumeOfColumn_17 : decode cX4_volumeOfColumn 17 = .ok (.iload_n 2, 1) := by decide +kernel
theorem dX4_volumeOfColumn_18 : decode cX4_volumeOfColumn 18 = .ok (.aload_n 0, 1) := by decide +kernel
theorem dX4_volumeOfColumn_19 : decode cX4_volumeOfColumn 19 = .ok (.getfield 9, 3) := by decide +kernel
theorem dX4_volumeOfColumn_22 : decode cX4_volumeOfColumn 22 = .ok (.aload_n 0, 1) := by decide +kernel
theorem dX4_volumeOfColumn_23 : decode cX4_volumeOfColumn 23 = .ok (.getfield 22, 3) := by decide +kernel
theorem dX4_volumeOfColumn_26 : decode cX4_volumeOfColumn 26 = .ok (.iload_n 3, 1) := by decide +kernel
theorem dX4_volumeOfColumn_27 : decode cX4_volumeOfColumn 27 = .ok (.iaload, 1) := by decide +kernel
theorem dX4_volumeOfColumn_28 : decode cX4_volumeOfColumn 28 = .ok (.invokestatic 63, 3) := by decide +kernel
theorem dX4_volumeOfColumn_31 : decode cX4_volumeOfColumn 31 = .ok (.iadd, 1) := by decide +kernel
theorem dX4_volumeOfColumn_32 : decode cX4_volumeOfColumn 32 = .ok (.istore_n 2, 1) := by decide +kernel
theorem dX4_volumeOfColumn_33 : decode cX4_volumeOfColumn 33 = .ok (.iinc 3 6, 3) := by decide +kernel
theorem dX4_volumeOfColumn_36 : decode cX4_volumeOfColumn 36 = .ok (.goto (-32), 3) := by decide +kernel
theorem dX4_volumeOfColumn_39 : decode cX4_volumeOfColumn 39 = .ok (.iload_n 2, 1) := by decide +kernel
theorem dX4_volumeOfColumn_40 : decode cX4_volumeOfColumn 40 = .ok (.ireturn, 1) := by decide +kernel
theorem dX4_volumeOfRow_0 : decode cX4_volumeOfRow 0 = .ok (.iconst 0, 1) := by decide +kernel
theorem dX4_volumeOfRow_1 : decode cX4_volumeOfRow 1 = .ok (.istore_n 2, 1) := by decide +kernel
theorem dX4_volumeOfRow_2 : decode cX4_volumeOfRow 2 = .ok (.iconst 0, 1) := by decide +kernel
theorem dX4_volumeOfRow_3 : decode cX4_volumeOfRow 3 = .ok (.istore_n 3, 1) := by decide +kernel
theorem dX4_volumeOfRow_4 : decode cX4_volumeOfRow 4 = .ok (.iload_n 3, 1) := by decide +kernel
theorem dX4_volumeOfRow_5 : decode cX4_volumeOfRow 5 = .ok (.aload_n 0, 1) := by decide +kernel
theorem dX4_volumeOfRow_6 : decode cX4_volumeOfRow 6 = .ok (.getfield 19, 3) := by decide +kernel
theorem dX4_volumeOfRow_9 : decode cX4_volumeOfRow 9 = .ok (.if_icmp .ge 25, 3) := by decide +kernel
theorem dX4_volumeOfRow_12 : decode cX4_volumeOfRow 12 = .ok (.iload_n 2, 1) := by decide +kernel
theorem dX4_volumeOfRow_13 : decode cX4_volumeOfRow 13 = .ok (.aload_n 0, 1) := by decide +kernel
theorem dX4_volumeOfRow_14 : decode cX4_volumeOfRow 14 = .ok (.getfield 9, 3) := by decide +kernel
theorem dX4_volumeOfRow_17 : decode cX4_volumeOfRow 17 = .ok (.aload_n 0, 1) := by decide +kernel
theorem dX4_volumeOfRow_18 : decode cX4_volumeOfRow 18 = .ok (.iload_n 1, 1) := by decide +kernel
theorem dX4_volumeOfRow_19 : decode cX4_volumeOfRow 19 = .ok (.iload_n 3, 1) := by decide +kernel
theorem dX4_volumeOfRow_20 : decode cX4_volumeOfRow 20 = .ok (.invokevirtual 55, 3) := by decide +kernel
theorem dX4_volumeOfRow_23 : decode cX4_volumeOfRow 23 = .ok (.invokestatic 63, 3) := by decide +kernel
theorem dX4_volumeOfRow_26 : decode cX4_volumeOfRow 26 = .ok (.iadd, 1) := by decide +kernel
theorem dX4_volumeOfRow_27 : decode cX4_volumeOfRow 27 = .ok (.istore_n 2, 1) := by decide +kernel
theorem dX4_volumeOfRow_28 : decode cX4_volumeOfRow 28 = .ok (.iinc 3 1, 3) := by decide +kernel
theorem dX4_volumeOfRow_31 : decode cX4_volumeOfRow 31 = .ok (.goto (-27), 3) := by decide +kernel
theorem dX4_volumeOfRow_34 : decode cX4_volumeOfRow 34 = .ok (.iload_n 2, 1) := by decide +kernel
theorem dX4_volumeOfRow_35 : decode cX4_volumeOfRow 35 = .ok (.ireturn, 1) := by decide +kernel
theorem dX4_masks_0 : decode cX4_masks 0 = .ok (.aload_n 0, 1) := by decide +kernel
theorem dX4_masks_1 : decode cX4_masks 1 = .ok (.getfield 26, 3) := by decide +kernel
theorem dX4_masks_4 : decode cX4_masks 4 = .ok (.iload_n 1, 1) := by decide +kernel
theorem dX4_masks_5 : decode cX4_masks 5 = .ok (.ishr, 1) := by decide +kernel
theorem dX4_masks_6 : decode cX4_masks 6 = .ok (.iconst 1, 1) := by decide +kernel
theorem dX4_masks_7 : decode cX4_masks 7 = .ok (.iand, 1) := by decide +kernel
theorem dX4_masks_8 : decode cX4_masks 8 = .ok (.ifCond .eq 7, 3) := by decide +kernel
theorem dX4_masks_11 : decode cX4_masks 11 = .ok (.iconst 1, 1) := by decide +kernel
theorem dX4_masks_12 : decode cX4_masks 12 = .ok (.goto 4, 3) := by decide +kernel
theorem dX4_masks_15 : decode cX4_masks 15 = .ok (.iconst 0, 1) := by decide +kernel
theorem dX4_masks_16 : decode cX4_masks 16 = .ok (.ireturn, 1) := by decide +kernel
theorem dX4_putMask_0 : decode cX4_putMask 0 = .ok (.aload_n 0, 1) := by decide +kernel
theorem dX4_putMask_1 : decode cX4_putMask 1 = .ok (.iload_n 2, 1) := by decide +kernel
theorem dX4_putMask_2 : decode cX4_putMask 2 = .ok (.ifCond .eq 14, 3) := by decide +kernel
theorem dX4_putMask_5 : decode cX4_putMask 5 = .ok (.aload_n 0, 1) := by decide +kernel
theorem dX4_putMask_6 : decode cX4_putMask 6 = .ok (.getfield 26, 3) := by decide +kernel
theorem dX4_putMask_9 : decode cX4_putMask 9 = .ok (.iconst 1, 1) := by decide +kernel
theorem dX4_putMask_10 : decode cX4_putMask 10 = .ok (.iload_n 1, 1) := by decide +kernel
theorem dX4_putMask_11 : decode cX4_putMask 11 = .ok (.ishl, 1) := by decide +kernel
theorem dX4_putMask_12 : decode cX4_putMask 12 = .ok (.ior, 1) := by decide +kernel
theorem dX4_putMask_13 : decode cX4_putMask 13 = .ok (.goto 13, 3) := by decide +kernel
theorem dX4_putMask_16 : decode cX4_putMask 16 = .ok (.aload_n 0, 1) := by decide +kernel
theorem dX4_putMask_17 : decode cX4_putMask 17 = .ok (.getfield 26, 3) := by decide +kernel
theorem dX4_putMask_20 : decode cX4_putMask 20 = .ok (.iconst 1, 1) := by decide +kernel
theorem dX4_putMask_21 : decode cX4_putMask 21 = .ok (.iload_n 1, 1) := by decide +kernel
theorem dX4_putMask_22 : decode cX4_putMask 22 = .ok (.ishl, 1) := by decide +kernel
theorem dX4_putMask_23 : decode cX4_putMask 23 = .ok (.iconst (-1), 1) := by decide +kernel
theorem dX4_putMask_24 : decode cX4_putMask 24 = .ok (.ixor, 1) := by decide +kernel
theorem dX4_putMask_25 : decode cX4_putMask 25 = .ok (.iand, 1) := by decide +kernel
theorem dX4_putMask_26 : decode cX4_putMask 26 = .ok (.putfield 26, 3) := by decide +kernel
theorem dX4_putMask_29 : decode cX4_putMask 29 = .ok (.return_, 1) := by decide +kernel
theorem dX4_maskedColumns_0 : decode cX4_maskedColumns 0 = .ok (.iconst 0, 1) := by decide +kernel
theorem dX4_maskedColumns_1 : decode cX4_maskedColumns 1 = .ok (.istore_n 1, 1) := by decide +kernel
theorem dX4_maskedColumns_2 : decode cX4_maskedColumns 2 = .ok (.iconst 0, 1) := by decide +kernel
theorem dX4_maskedColumns_3 : decode cX4_maskedColumns 3 = .ok (.istore_n 2, 1) := by decide +kernel
theorem dX4_maskedColumns_4 : decode cX4_maskedColumns 4 = .ok (.iload_n 2, 1) := by decide +kernel
theorem dX4_maskedColumns_5 : decode cX4_maskedColumns 5 = .ok (.aload_n 0, 1) := by decide +kernel
theorem dX4_maskedColumns_6 : decode cX4_maskedColumns 6 = .ok (.getfield 19, 3) := by decide +kernel
theorem dX4_maskedColumns_9 : decode cX4_maskedColumns 9 = .ok (.if_icmp .ge 20, 3) := by decide +kernel
theorem dX4_maskedColumns_12 : decode cX4_maskedColumns 12 = .ok (.aload_n 0, 1) := by decide +kernel
theorem dX4_maskedColumns_13 : decode cX4_maskedColumns 13 = .ok (.iload_n 2, 1) := by decide +kernel
theorem dX4_maskedColumns_14 : decode cX4_maskedColumns 14 = .ok (.invokevirtual 67, 3) := by decide +kernel
theorem dX4_maskedColumns_17 : decode cX4_maskedColumns 17 = .ok (.ifCond .eq 6, 3) := by decide +kernel
theorem dX4_maskedColumns_20 : decode cX4_maskedColumns 20 = .ok (.iinc 1 1, 3) := by decide +kernel
theorem dX4_maskedColumns_23 : decode cX4_maskedColumns 23 = .ok (.iinc 2 1, 3) := by decide +kernel
theorem dX4_maskedColumns_26 : decode cX4_maskedColumns 26 = .ok (.goto (-22), 3) := by decide +kernel
theorem dX4_maskedColumns_29 : decode cX4_maskedColumns 29 = .ok (.iload_n 1, 1) := by decide +kernel
theorem dX4_maskedColumns_30 : decode cX4_maskedColumns 30 = .ok (.ireturn, 1) := by decide +kernel
theorem dX4_columnIn_0 : decode cX4_columnIn 0 = .ok (.aload_n 0, 1) := by decide +kernel
theorem dX4_columnIn_1 : decode cX4_columnIn 1 = .ok (.getfield 19, 3) := by decide +kernel
theorem dX4_columnIn_4 : decode cX4_columnIn 4 = .ok (.ifCond .le 12, 3) := by decide +kernel
theorem dX4_columnIn_7 : decode cX4_columnIn 7 = .ok (.iload_n 1, 1) := by decide +kernel
theorem dX4_columnIn_8 : decode cX4_columnIn 8 = .ok (.aload_n 0, 1) := by decide +kernel
theorem dX4_columnIn_9 : decode cX4_columnIn 9 = .ok (.getfield 19, 3) := by decide +kernel
theorem dX4_columnIn_12 : decode cX4_columnIn 12 = .ok (.irem, 1) := by decide +kernel
theorem dX4_columnIn_13 : decode cX4_columnIn 13 = .ok (.goto 4, 3) := by decide +kernel
theorem dX4_columnIn_16 : decode cX4_columnIn 16 = .ok (.iconst 0, 1) := by decide +kernel
theorem dX4_columnIn_17 : decode cX4_columnIn 17 = .ok (.ireturn, 1) := by decide +kernel
theorem dX4_volumeIn_0 : decode cX4_volumeIn 0 = .ok (.aload_n 0, 1) := by decide +kernel
theorem dX4_volumeIn_1 : decode cX4_volumeIn 1 = .ok (.iload_n 1, 1) := by decide +kernel
theorem dX4_volumeIn_2 : decode cX4_volumeIn 2 = .ok (.invokevirtual 70, 3) := by decide +kernel
theorem dX4_volumeIn_5 : decode cX4_volumeIn 5 = .ok (.istore_n 2, 1) := by decide +kernel
theorem dX4_volumeIn_6 : decode cX4_volumeIn 6 = .ok (.aload_n 0, 1) := by decide +kernel
theorem dX4_volumeIn_7 : decode cX4_volumeIn 7 = .ok (.getfield 32, 3) := by decide +kernel
theorem dX4_volumeIn_10 : decode cX4_volumeIn 10 = .ok (.ifCond .gt 11, 3) := by decide +kernel
theorem dX4_volumeIn_13 : decode cX4_volumeIn 13 = .ok (.aload_n 0, 1) := by decide +kernel
theorem dX4_volumeIn_14 : decode cX4_volumeIn 14 = .ok (.iload_n 2, 1) := by decide +kernel
theorem dX4_volumeIn_15 : decode cX4_volumeIn 15 = .ok (.invokevirtual 67, 3) := by decide +kernel
theorem dX4_volumeIn_18 : decode cX4_volumeIn 18 = .ok (.ifCond .eq 7, 3) := by decide +kernel
theorem dX4_volumeIn_21 : decode cX4_volumeIn 21 = .ok (.iconst 0, 1) := by decide +kernel
theorem dX4_volumeIn_22 : decode cX4_volumeIn 22 = .ok (.goto 8, 3) := by decide +kernel
theorem dX4_volumeIn_25 : decode cX4_volumeIn 25 = .ok (.aload_n 0, 1) := by decide +kernel
theorem dX4_volumeIn_26 : decode cX4_volumeIn 26 = .ok (.iload_n 2, 1) := by decide +kernel
theorem dX4_volumeIn_27 : decode cX4_volumeIn 27 = .ok (.invokevirtual 74, 3) := by decide +kernel
theorem dX4_volumeIn_30 : decode cX4_volumeIn 30 = .ok (.ireturn, 1) := by decide +kernel
theorem dX4_tire_0 : decode cX4_tire 0 = .ok (.aload_n 0, 1) := by decide +kernel
theorem dX4_tire_1 : decode cX4_tire 1 = .ok (.dup, 1) := by decide +kernel
theorem dX4_tire_2 : decode cX4_tire 2 = .ok (.getfield 29, 3) := by decide +kernel
theorem dX4_tire_5 : decode cX4_tire 5 = .ok (.iconst 1, 1) := by decide +kernel
theorem dX4_tire_6 : decode cX4_tire 6 = .ok (.iadd, 1) := by decide +kernel
theorem dX4_tire_7 : decode cX4_tire 7 = .ok (.putfield 29, 3) := by decide +kernel
theorem dX4_tire_10 : decode cX4_tire 10 = .ok (.aload_n 0, 1) := by decide +kernel
theorem dX4_tire_11 : decode cX4_tire 11 = .ok (.getfield 29, 3) := by decide +kernel
theorem dX4_tire_14 : decode cX4_tire 14 = .ok (.iconst 3, 1) := by decide +kernel
theorem dX4_tire_15 : decode cX4_tire 15 = .ok (.if_icmp .ne 13, 3) := by decide +kernel
theorem dX4_tire_18 : decode cX4_tire 18 = .ok (.aload_n 0, 1) := by decide +kernel
theorem dX4_tire_19 : decode cX4_tire 19 = .ok (.iconst 0, 1) := by decide +kernel
theorem dX4_tire_20 : decode cX4_tire 20 = .ok (.putfield 29, 3) := by decide +kernel
theorem dX4_tire_23 : decode cX4_tire 23 = .ok (.aload_n 0, 1) := by decide +kernel
theorem dX4_tire_24 : decode cX4_tire 24 = .ok (.iconst 2, 1) := by decide +kernel
theorem dX4_tire_25 : decode cX4_tire 25 = .ok (.putfield 32, 3) := by decide +kernel
theorem dX4_tire_28 : decode cX4_tire 28 = .ok (.return_, 1) := by decide +kernel
theorem dX5_init_0 : decode cX5_init 0 = .ok (.aload_n 0, 1) := by decide +kernel
theorem dX5_init_1 : decode cX5_init 1 = .ok (.invokespecial 3, 3) := by decide +kernel
theorem dX5_init_4 : decode cX5_init 4 = .ok (.aload_n 0, 1) := by decide +kernel
theorem dX5_init_5 : decode cX5_init 5 = .ok (.iconst 5, 1) := by decide +kernel
theorem dX5_init_6 : decode cX5_init 6 = .ok (.anewarray 9, 3) := by decide +kernel
theorem dX5_init_9 : decode cX5_init 9 = .ok (.putfield 11, 3) := by decide +kernel
theorem dX5_init_12 : decode cX5_init 12 = .ok (.aload_n 0, 1) := by decide +kernel
theorem dX5_init_13 : decode cX5_init 13 = .ok (.iconst 0, 1) := by decide +kernel
theorem dX5_init_14 : decode cX5_init 14 = .ok (.putfield 17, 3) := by decide +kernel
theorem dX5_init_17 : decode cX5_init 17 = .ok (.aload_n 0, 1) := by decide +kernel
theorem dX5_init_18 : decode cX5_init 18 = .ok (.iconst 2, 1) := by decide +kernel
theorem dX5_init_19 : decode cX5_init 19 = .ok (.putfield 21, 3) := by decide +kernel
theorem dX5_init_22 : decode cX5_init 22 = .ok (.aload_n 0, 1) := by decide +kernel
theorem dX5_init_23 : decode cX5_init 23 = .ok (.bipush 30, 2) := by decide +kernel
theorem dX5_init_25 : decode cX5_init 25 = .ok (.putfield 24, 3) := by decide +kernel
theorem dX5_init_28 : decode cX5_init 28 = .ok (.aload_n 0, 1) := by decide +kernel
theorem dX5_init_29 : decode cX5_init 29 = .ok (.iconst 0, 1) := by decide +kernel
theorem dX5_init_30 : decode cX5_init 30 = .ok (.putfield 27, 3) := by decide +kernel
theorem dX5_init_33 : decode cX5_init 33 = .ok (.aload_n 0, 1) := by decide +kernel
theorem dX5_init_34 : decode cX5_init 34 = .ok (.iconst 0, 1) := by decide +kernel
theorem dX5_init_35 : decode cX5_init 35 = .ok (.putfield 30, 3) := by decide +kernel
theorem dX5_init_38 : decode cX5_init 38 = .ok (.aload_n 0, 1) := by decide +kernel
theorem dX5_init_39 : decode cX5_init 39 = .ok (.iconst 0, 1) := by decide +kernel
theorem dX5_init_40 : decode cX5_init 40 = .ok (.putfield 33, 3) := by decide +kernel
theorem dX5_init_43 : decode cX5_init 43 = .ok (.aload_n 0, 1) := by decide +kernel
theorem dX5_init_44 : decode cX5_init 44 = .ok (.lconst 0, 1) := by decide +kernel
theorem dX5_init_45 : decode cX5_init 45 = .ok (.putfield 36, 3) := by decide +kernel
theorem dX5_init_48 : decode cX5_init 48 = .ok (.aload_n 0, 1) := by decide +kernel
theorem dX5_init_49 : decode cX5_init 49 = .ok (.bipush 30, 2) := by decide +kernel
theorem dX5_init_51 : decode cX5_init 51 = .ok (.newarray .int, 2) := by decide +kernel
theorem dX5_init_53 : decode cX5_init 53 = .ok (.putfield 40, 3) := by decide +kernel
theorem dX5_init_56 : decode cX5_init 56 = .ok (.aload_n 0, 1) := by decide +kernel
theorem dX5_init_57 : decode cX5_init 57 = .ok (.bipush 10, 2) := by decide +kernel
theorem dX5_init_59 : decode cX5_init 59 = .ok (.newarray .int, 2) := by decide +kernel
theorem dX5_init_61 : decode cX5_init 61 = .ok (.putfield 44, 3) := by decide +kernel
theorem dX5_init_64 : decode cX5_init 64 = .ok (.iconst 0, 1) := by decide +kernel
theorem dX5_init_65 : decode cX5_init 65 = .ok (.istore_n 1, 1) := by decide +kernel
theorem dX5_init_66 : decode cX5_init 66 = .ok (.iload_n 1, 1) := by decide +kernel
theorem dX5_init_67 : decode cX5_init 67 = .ok (.aload_n 0, 1) := by decide +kernel
theorem dX5_init_68 : decode cX5_init 68 = .ok (.getfield 11, 3) := by decide +kernel
theorem dX5_init_71 : decode cX5_init 71 = .ok (.arraylength, 1) := by decide +kernel
theorem dX5_init_72 : decode cX5_init 72 = .ok (.if_icmp .ge 22, 3) := by decide +kernel
theorem dX5_init_75 : decode cX5_init 75 = .ok (.aload_n 0, 1) := by decide +kernel
theorem dX5_init_76 : decode cX5_init 76 = .ok (.getfield 11, 3) := by decide +kernel
theorem dX5_init_79 : decode cX5_init 79 = .ok (.iload_n 1, 1) := by decide +kernel
theorem dX5_init_80 : decode cX5_init 80 = .ok (.new 9, 3) := by decide +kernel
theorem dX5_init_83 : decode cX5_init 83 = .ok (.dup, 1) := by decide +kernel
theorem dX5_init_84 : decode cX5_init 84 = .ok (.invokespecial 47, 3) := by decide +kernel
theorem dX5_init_87 : decode cX5_init 87 = .ok (.aastore, 1) := by decide +kernel
theorem dX5_init_88 : decode cX5_init 88 = .ok (.iinc 1 1, 3) := by decide +kernel
theorem dX5_init_91 : decode cX5_init 91 = .ok (.goto (-25), 3) := by decide +kernel
theorem dX5_init_94 : decode cX5_init 94 = .ok (.return_, 1) := by decide +kernel
theorem dX5_copyFrom_0 : decode cX5_copyFrom 0 = .ok (.iconst 0, 1) := by decide +kernel
theorem dX5_copyFrom_1 : decode cX5_copyFrom 1 = .ok (.istore_n 2, 1) := by decide +kernel
theorem dX5_copyFrom_2 : decode cX5_copyFrom 2 = .ok (.iload_n 2, 1) := by decide +kernel
theorem dX5_copyFrom_3 : decode cX5_copyFrom 3 = .ok (.aload_n 0, 1) := by decide +kernel
theorem dX5_copyFrom_4 : decode cX5_copyFrom 4 = .ok (.getfield 11, 3) := by decide +kernel
theorem dX5_copyFrom_7 : decode cX5_copyFrom 7 = .ok (.arraylength, 1) := by decide +kernel
theorem dX5_copyFrom_8 : decode cX5_copyFrom 8 = .ok (.if_icmp .ge 33, 3) := by decide +kernel
theorem dX5_copyFrom_11 : decode cX5_copyFrom 11 = .ok (.iload_n 2, 1) := by decide +kernel
theorem dX5_copyFrom_12 : decode cX5_copyFrom 12 = .ok (.aload_n 1, 1) := by decide +kernel
theorem dX5_copyFrom_13 : decode cX5_copyFrom 13 = .ok (.getfield 11, 3) := by decide +kernel
theorem dX5_copyFrom_16 : decode cX5_copyFrom 16 = .ok (.arraylength, 1) := by decide +kernel
theorem dX5_copyFrom_17 : decode cX5_copyFrom 17 = .ok (.if_icmp .ge 24, 3) := by decide +kernel
theorem dX5_copyFrom_20 : decode cX5_copyFrom 20 = .ok (.aload_n 0, 1) := by decide +kernel
theorem dX5_copyFrom_21 : decode cX5_copyFrom 21 = .ok (.getfield 11, 3) := by decide +kernel
theorem dX5_copyFrom_24 : decode cX5_copyFrom 24 = .ok (.iload_n 2, 1) := by decide +kernel
theorem dX5_copyFrom_25 : decode cX5_copyFrom 25 = .ok (.aaload, 1) := by decide +kernel
theorem dX5_copyFrom_26 : decode cX5_copyFrom 26 = .ok (.aload_n 1, 1) := by decide +kernel
theorem dX5_copyFrom_27 : decode cX5_copyFrom 27 = .ok (.getfield 11, 3) := by decide +kernel
theorem dX5_copyFrom_30 : decode cX5_copyFrom 30 = .ok (.iload_n 2, 1) := by decide +kernel
theorem dX5_copyFrom_31 : decode cX5_copyFrom 31 = .ok (.aaload, 1) := by decide +kernel
theorem dX5_copyFrom_32 : decode cX5_copyFrom 32 = .ok (.invokevirtual 48, 3) := by decide +kernel
theorem dX5_copyFrom_35 : decode cX5_copyFrom 35 = .ok (.iinc 2 1, 3) := by decide +kernel
theorem dX5_copyFrom_38 : decode cX5_copyFrom 38 = .ok (.goto (-36), 3) := by decide +kernel
theorem dX5_copyFrom_41 : decode cX5_copyFrom 41 = .ok (.aload_n 0, 1) := by decide +kernel
theorem dX5_copyFrom_42 : decode cX5_copyFrom 42 = .ok (.aload_n 1, 1) := by decide +kernel
theorem dX5_copyFrom_43 : decode cX5_copyFrom 43 = .ok (.getfield 17, 3) := by decide +kernel
theorem dX5_copyFrom_46 : decode cX5_copyFrom 46 = .ok (.putfield 17, 3) := by decide +kernel
theorem dX5_copyFrom_49 : decode cX5_copyFrom 49 = .ok (.aload_n 0, 1) := by decide +kernel
theorem dX5_copyFrom_50 : decode cX5_copyFrom 50 = .ok (.aload_n 1, 1) := by decide +kernel
theorem dX5_copyFrom_51 : decode cX5_copyFrom 51 = .ok (.getfield 21, 3) := by decide +kernel
theorem dX5_copyFrom_54 : decode cX5_copyFrom 54 = .ok (.putfield 21, 3) := by decide +kernel
theorem dX5_copyFrom_57 : decode cX5_copyFrom 57 = .ok (.aload_n 0, 1) := by decide +kernel
theorem dX5_copyFrom_58 : decode cX5_copyFrom 58 = .ok (.aload_n 1, 1) := by decide +kernel
theorem dX5_copyFrom_59 : decode cX5_copyFrom 59 = .ok (.getfield 24, 3) := by decide +kernel
theorem dX5_copyFrom_62 : decode cX5_copyFrom 62 = .ok (.putfield 24, 3) := by decide +kernel
theorem dX5_copyFrom_65 : decode cX5_copyFrom 65 = .ok (.aload_n 0, 1) := by decide +kernel
theorem dX5_copyFrom_66 : decode cX5_copyFrom 66 = .ok (.aload_n 1, 1) := by decide +kernel
theorem dX5_copyFrom_67 : decode cX5_copyFrom 67 = .ok (.getfield 27, 3) := by decide +kernel
theorem dX5_copyFrom_70 : decode cX5_copyFrom 70 = .ok (.putfield 27, 3) := by decide +kernel
theorem dX5_copyFrom_73 : decode cX5_copyFrom 73 = .ok (.aload_n 0, 1) := by decide +kernel
theorem dX5_copyFrom_74 : decode cX5_copyFrom 74 = .ok (.aload_n 1, 1) := by decide +kernel
theorem dX5_copyFrom_75 : decode cX5_copyFrom 75 = .ok (.getfield 30, 3) := by decide +kernel
theorem dX5_copyFrom_78 : decode cX5_copyFrom 78 = .ok (.putfield 30, 3) := by decide +kernel
theorem dX5_copyFrom_81 : decode cX5_copyFrom 81 = .ok (.aload_n 0, 1) := by decide +kernel
theorem dX5_copyFrom_82 : decode cX5_copyFrom 82 = .ok (.aload_n 1, 1) := by decide +kernel
theorem dX5_copyFrom_83 : decode cX5_copyFrom 83 = .ok (.getfield 33, 3) := by decide +kernel
theorem dX5_copyFrom_86 : decode cX5_copyFrom 86 = .ok (.putfield 33, 3) := by decide +kernel
theorem dX5_copyFrom_89 : decode cX5_copyFrom 89 = .ok (.aload_n 0, 1) := by decide +kernel
theorem dX5_copyFrom_90 : decode cX5_copyFrom 90 = .ok (.aload_n 1, 1) := by decide +kernel
theorem dX5_copyFrom_91 : decode cX5_copyFrom 91 = .ok (.getfield 36, 3) := by decide +kernel
theorem dX5_copyFrom_94 : decode cX5_copyFrom 94 = .ok (.putfield 36, 3) := by decide +kernel
theorem dX5_copyFrom_97 : decode cX5_copyFrom 97 = .ok (.aload_n 1, 1) := by decide +kernel
theorem dX5_copyFrom_98 : decode cX5_copyFrom 98 = .ok (.getfield 40, 3) := by decide +kernel
theorem dX5_copyFrom_101 : decode cX5_copyFrom 101 = .ok (.iconst 0, 1) := by decide +kernel
theorem dX5_copyFrom_102 : decode cX5_copyFrom 102 = .ok (.aload_n 0, 1) := by decide +kernel
theorem dX5_copyFrom_103 : decode cX5_copyFrom 103 = .ok (.getfield 40, 3) := by decide +kernel
theorem dX5_copyFrom_106 : decode cX5_copyFrom 106 = .ok (.iconst 0, 1) := by decide +kernel
theorem dX5_copyFrom_107 : decode cX5_copyFrom 107 = .ok (.aload_n 0, 1) := by decide +kernel
theorem dX5_copyFrom_108 : decode cX5_copyFrom 108 = .ok (.getfield 40, 3) := by decide +kernel
theorem dX5_copyFrom_111 : decode cX5_copyFrom 111 = .ok (.arraylength, 1) := by decide +kernel
theorem dX5_copyFrom_112 : decode cX5_copyFrom 112 = .ok (.invokestatic 52, 3) := by decide +kernel
theorem dX5_copyFrom_115 : decode cX5_copyFrom 115 = .ok (.aload_n 1, 1) := by decide +kernel
theorem dX5_copyFrom_116 : decode cX5_copyFrom 116 = .ok (.getfield 44, 3) := by decide +kernel
theorem dX5_copyFrom_119 : decode cX5_copyFrom 119 = .ok (.iconst 0, 1) := by decide +kernel
theorem dX5_copyFrom_120 : decode cX5_copyFrom 120 = .ok (.aload_n 0, 1) := by decide +kernel
theorem dX5_copyFrom_121 : decode cX5_copyFrom 121 = .ok (.getfield 44, 3) := by decide +kernel
theorem dX5_copyFrom_124 : decode cX5_copyFrom 124 = .ok (.iconst 0, 1) := by decide +kernel
theorem dX5_copyFrom_125 : decode cX5_copyFrom 125 = .ok (.aload_n 0, 1) := by decide +kernel
theorem dX5_copyFrom_126 : decode cX5_copyFrom 126 = .ok (.getfield 44, 3) := by decide +kernel
theorem dX5_copyFrom_129 : decode cX5_copyFrom 129 = .ok (.arraylength, 1) := by decide +kernel
theorem dX5_copyFrom_130 : decode cX5_copyFrom 130 = .ok (.invokestatic 52, 3) := by decide +kernel
theorem dX5_copyFrom_133 : decode cX5_copyFrom 133 = .ok (.return_, 1) := by decide +kernel
theorem dX5_hasSection_0 : decode cX5_hasSection 0 = .ok (.iload_n 1, 1) := by decide +kernel
theorem dX5_hasSection_1 : decode cX5_hasSection 1 = .ok (.ifCond .lt 24, 3) := by decide +kernel
theorem dX5_hasSection_4 : decode cX5_hasSection 4 = .ok (.iload_n 1, 1) := by decide +kernel
theorem dX5_hasSection_5 : decode cX5_hasSection 5 = .ok (.aload_n 0, 1) := by decide +kernel
theorem dX5_hasSection_6 : decode cX5_hasSection 6 = .ok (.getfield 17, 3) := by decide +kernel
theorem dX5_hasSection_9 : decode cX5_hasSection 9 = .ok (.if_icmp .ge 16, 3) := by decide +kernel
theorem dX5_hasSection_12 : decode cX5_hasSection 12 = .ok (.iload_n 1, 1) := by decide +kernel
theorem dX5_hasSection_13 : decode cX5_hasSection 13 = .ok (.aload_n 0, 1) := by decide +kernel
theorem dX5_hasSection_14 : decode cX5_hasSection 14 = .ok (.getfield 11, 3) := by decide +kernel
theorem dX5_hasSection_17 : decode cX5_hasSection 17 = .ok (.arraylength, 1) := by decide +kernel
theorem dX5_hasSection_18 : decode cX5_hasSection 18 = .ok (.if_icmp .ge 7, 3) := by decide +kernel
theorem dX5_hasSection_21 : decode cX5_hasSection 21 = .ok (.iconst 1, 1) := by decide +kernel
theorem dX5_hasSection_22 : decode cX5_hasSection 22 = .ok (.goto 4, 3) := by decide +kernel
theorem dX5_hasSection_25 : decode cX5_hasSection 25 = .ok (.iconst 0, 1) := by decide +kernel
theorem dX5_hasSection_26 : decode cX5_hasSection 26 = .ok (.ireturn, 1) := by decide +kernel
theorem dX5_add_0 : decode cX5_add 0 = .ok (.iload_n 1, 1) := by decide +kernel
theorem dX5_add_1 : decode cX5_add 1 = .ok (.invokestatic 58, 3) := by decide +kernel
theorem dX5_add_4 : decode cX5_add 4 = .ok (.ifCond .lt 17, 3) := by decide +kernel
theorem dX5_add_7 : decode cX5_add 7 = .ok (.iload_n 2, 1) := by decide +kernel
theorem dX5_add_8 : decode cX5_add 8 = .ok (.invokestatic 62, 3) := by decide +kernel
theorem dX5_add_11 : decode cX5_add 11 = .ok (.ifCond .eq 10, 3) := by decide +kernel
theorem dX5_add_14 : decode cX5_add 14 = .ok (.iload_n 3, 1) := by decide +kernel
theorem dX5_add_15 : decode cX5_add 15 = .ok (.invokestatic 62, 3) := by decide +kernel
theorem dX5_add_18 : decode cX5_add 18 = .ok (.ifCond .ne 6, 3) := by decide +kernel
theorem dX5_add_21 : decode cX5_add 21 = .ok (.bipush (-2), 2) := by decide +kernel
theorem dX5_add_23 : decode cX5_add 23 = .ok (.ireturn, 1) := by decide +kernel
theorem dX5_add_24 : decode cX5_add 24 = .ok (.aload_n 0, 1) := by decide +kernel
theorem dX5_add_25 : decode cX5_add 25 = .ok (.getfield 17, 3) := by decide +kernel
theorem dX5_add_28 : decode cX5_add 28 = .ok (.ifCond .lt 15, 3) := by decide +kernel
theorem dX5_add_31 : decode cX5_add 31 = .ok (.aload_n 0, 1) := by decide +kernel
theorem dX5_add_32 : decode cX5_add 32 = .ok (.getfield 17, 3) := by decide +kernel
theorem dX5_add_35 : decode cX5_add 35 = .ok (.aload_n 0, 1) := by decide +kernel
theorem dX5_add_36 : decode cX5_add 36 = .ok (.getfield 11, 3) := by decide +kernel
theorem dX5_add_39 : decode cX5_add 39 = .ok (.arraylength, 1) := by decide +kernel
theorem dX5_add_40 : decode cX5_add 40 = .ok (.if_icmp .lt 6, 3) := by decide +kernel
theorem dX5_add_43 : decode cX5_add 43 = .ok (.bipush (-3), 2) := by decide +kernel
theorem dX5_add_45 : decode cX5_add 45 = .ok (.ireturn, 1) := by decide +kernel
theorem dX5_add_46 : decode cX5_add 46 = .ok (.aload_n 0, 1) := by decide +kernel
theorem dX5_add_47 : decode cX5_add 47 = .ok (.getfield 11, 3) := by decide +kernel
theorem dX5_add_50 : decode cX5_add 50 = .ok (.aload_n 0, 1) := by decide +kernel
theorem dX5_add_51 : decode cX5_add 51 = .ok (.getfield 17, 3) := by decide +kernel
theorem dX5_add_54 : decode cX5_add 54 = .ok (.aaload, 1) := by decide +kernel
theorem dX5_add_55 : decode cX5_add 55 = .ok (.iload_n 1, 1) := by decide +kernel
theorem dX5_add_56 : decode cX5_add 56 = .ok (.iload_n 2, 1) := by decide +kernel
theorem dX5_add_57 : decode cX5_add 57 = .ok (.iload_n 3, 1) := by decide +kernel
theorem dX5_add_58 : decode cX5_add 58 = .ok (.invokevirtual 66, 3) := by decide +kernel
theorem dX5_add_61 : decode cX5_add 61 = .ok (.aload_n 0, 1) := by decide +kernel
theorem dX5_add_62 : decode cX5_add 62 = .ok (.dup, 1) := by decide +kernel
theorem dX5_add_63 : decode cX5_add 63 = .ok (.getfield 17, 3) := by decide +kernel
theorem dX5_add_66 : decode cX5_add 66 = .ok (.iconst 1, 1) := by decide +kernel
theorem dX5_add_67 : decode cX5_add 67 = .ok (.iadd, 1) := by decide +kernel
theorem dX5_add_68 : decode cX5_add 68 = .ok (.putfield 17, 3) := by decide +kernel
theorem dX5_add_71 : decode cX5_add 71 = .ok (.aload_n 0, 1) := by decide +kernel
theorem dX5_add_72 : decode cX5_add 72 = .ok (.getfield 17, 3) := by decide +kernel
theorem dX5_add_75 : decode cX5_add 75 = .ok (.iconst 1, 1) := by decide +kernel
theorem dX5_add_76 : decode cX5_add 76 = .ok (.isub, 1) := by decide +kernel
theorem dX5_add_77 : decode cX5_add 77 = .ok (.ireturn, 1) := by decide +kernel
theorem dX5_drop_0 : decode cX5_drop 0 = .ok (.aload_n 0, 1) := by decide +kernel
theorem dX5_drop_1 : decode cX5_drop 1 = .ok (.iload_n 1, 1) := by decide +kernel
theorem dX5_drop_2 : decode cX5_drop 2 = .ok (.invokevirtual 70, 3) := by decide +kernel
theorem dX5_drop_5 : decode cX5_drop 5 = .ok (.ifCond .ne 5, 3) := by decide +kernel
theorem dX5_drop_8 : decode cX5_drop 8 = .ok (.iconst (-1), 1) := by decide +kernel
theorem dX5_drop_9 : decode cX5_drop 9 = .ok (.ireturn, 1) := by decide +kernel
theorem dX5_drop_10 : decode cX5_drop 10 = .ok (.aload_n 0, 1) := by decide +kernel
theorem dX5_drop_11 : decode cX5_drop 11 = .ok (.getfield 11, 3) := by decide +kernel
theorem dX5_drop_14 : decode cX5_drop 14 = .ok (.iload_n 1, 1) := by decide +kernel
theorem dX5_drop_15 : decode cX5_drop 15 = .ok (.aaload, 1) := by decide +kernel
theorem dX5_drop_16 : decode cX5_drop 16 = .ok (.astore_n 2, 1) := by decide +kernel
theorem dX5_drop_17 : decode cX5_drop 17 = .ok (.iload_n 1, 1) := by decide +kernel
theorem dX5_drop_18 : decode cX5_drop 18 = .ok (.istore_n 3, 1) := by decide +kernel
theorem dX5_drop_19 : decode cX5_drop 19 = .ok (.iload_n 3, 1) := by decide +kernel
theorem dX5_drop_20 : decode cX5_drop 20 = .ok (.iconst 1, 1) := by decide +kernel
theorem dX5_drop_21 : decode cX5_drop 21 = .ok (.iadd, 1) := by decide +kernel
theorem dX5_drop_22 : decode cX5_drop 22 = .ok (.aload_n 0, 1) := by decide +kernel
theorem dX5_drop_23 : decode cX5_drop 23 = .ok (.getfield 11, 3) := by decide +kernel
theorem dX5_drop_26 : decode cX5_drop 26 = .ok (.arraylength, 1) := by decide +kernel
theorem dX5_drop_27 : decode cX5_drop 27 = .ok (.if_icmp .ge 23, 3) := by decide +kernel
theorem dX5_drop_30 : decode cX5_drop 30 = .ok (.aload_n 0, 1) := by decide +kernel
theorem dX5_drop_31 : decode cX5_drop 31 = .ok (.getfield 11, 3) := by decide +kernel
theorem dX5_drop_34 : decode cX5_drop 34 = .ok (.iload_n 3, 1) := by decide +kernel
theorem dX5_drop_35 : decode cX5_drop 35 = .ok (.aload_n 0, 1) := by decide +kernel
theorem dX5_drop_36 : decode cX5_drop 36 = .ok (.getfield 11, 3) := by decide +kernel
theorem dX5_drop_39 : decode cX5_drop 39 = .ok (.iload_n 3, 1) := by decide +kernel
theorem dX5_drop_40 : decode cX5_drop 40 = .ok (.iconst 1, 1) := by decide +kernel
theorem dX5_drop_41 : decode cX5_drop 41 = .ok (.iadd, 1) := by decide +kernel
theorem dX5_drop_42 : decode cX5_drop 42 = .ok (.aaload, 1) := by decide +kernel
theorem dX5_drop_43 : decode cX5_drop 43 = .ok (.aastore, 1) := by decide +kernel
theorem dX5_drop_44 : decode cX5_drop 44 = .ok (.iinc 3 1, 3) := by decide +kernel
theorem dX5_drop_47 : decode cX5_drop 47 = .ok (.goto (-28), 3) := by decide +kernel
theorem dX5_drop_50 : decode cX5_drop 50 = .ok (.aload_n 0, 1) := by decide +kernel
theorem dX5_drop_51 : decode cX5_drop 51 = .ok (.getfield 11, 3) := by decide +kernel
theorem dX5_drop_54 : decode cX5_drop 54 = .ok (.aload_n 0, 1) := by decide +kernel
theorem dX5_drop_55 : decode cX5_drop 55 = .ok (.getfield 11, 3) := by decide +kernel
theorem dX5_drop_58 : decode cX5_drop 58 = .ok (.arraylength, 1) := by decide +kernel
theorem dX5_drop_59 : decode cX5_drop 59 = .ok (.iconst 1, 1) := by decide +kernel
theorem dX5_drop_60 : decode cX5_drop 60 = .ok (.isub, 1) := by decide +kernel
theorem dX5_drop_61 : decode cX5_drop 61 = .ok (.aload_n 2, 1) := by decide +kernel
theorem dX5_drop_62 : decode cX5_drop 62 = .ok (.aastore, 1) := by decide +kernel
theorem dX5_drop_63 : decode cX5_drop 63 = .ok (.aload_n 0, 1) := by decide +kernel
theorem dX5_drop_64 : decode cX5_drop 64 = .ok (.dup, 1) := by decide +kernel
theorem dX5_drop_65 : decode cX5_drop 65 = .ok (.getfield 17, 3) := by decide +kernel
theorem dX5_drop_68 : decode cX5_drop 68 = .ok (.iconst 1, 1) := by decide +kernel
theorem dX5_drop_69 : decode cX5_drop 69 = .ok (.isub, 1) := by decide +kernel
theorem dX5_drop_70 : decode cX5_drop 70 = .ok (.putfield 17, 3) := by decide +kernel
theorem dX5_drop_73 : decode cX5_drop 73 = .ok (.aload_n 0, 1) := by decide +kernel
theorem dX5_drop_74 : decode cX5_drop 74 = .ok (.getfield 17, 3) := by decide +kernel
theorem dX5_drop_77 : decode cX5_drop 77 = .ok (.ireturn, 1) := by decide +kernel
theorem dX5_write_0 : decode cX5_write 0 = .ok (.aload_n 0, 1) := by decide +kernel
theorem dX5_write_1 : decode cX5_write 1 = .ok (.iload_n 1, 1) := by decide +kernel
theorem dX5_write_2 : decode cX5_write 2 = .ok (.invokevirtual 70, 3) := by decide +kernel
theorem dX5_write_5 : decode cX5_write 5 = .ok (.ifCond .eq 17, 3) := by decide +kernel
theorem dX5_write_8 : decode cX5_write 8 = .ok (.aload_n 0, 1) := by decide +kernel
theorem dX5_write_9 : decode cX5_write 9 = .ok (.getfield 11, 3) := by decide +kernel
theorem dX5_write_12 : decode cX5_write 12 = .ok (.iload_n 1, 1) := by decide +kernel
theorem dX5_write_13 : decode cX5_write 13 = .ok (.aaload, 1) := by decide +kernel
theorem dX5_write_14 : decode cX5_write 14 = .ok (.iload_n 2, 1) := by decide +kernel
theorem dX5_write_15 : decode cX5_write 15 = .ok (.iload_n 3, 1) := by decide +kernel
theorem dX5_write_16 : decode cX5_write 16 = .ok (.invokevirtual 73, 3) := by decide +kernel
theorem dX5_write_19 : decode cX5_write 19 = .ok (.ifCond .ne 5, 3) := by decide +kernel
theorem dX5_write_22 : decode cX5_write 22 = .ok (.iconst (-1), 1) := by decide +kernel
theorem dX5_write_23 : decode cX5_write 23 = .ok (.ireturn, 1) := by decide +kernel
theorem dX5_write_24 : decode cX5_write 24 = .ok (.iload 4, 2) := by decide +kernel
theorem dX5_write_26 : decode cX5_write 26 = .ok (.ifCond .lt 10, 3) := by decide +kernel
theorem dX5_write_29 : decode cX5_write 29 = .ok (.iload 4, 2) := by decide +kernel
theorem dX5_write_31 : decode cX5_write 31 = .ok (.bipush 9, 2) := by decide +kernel
theorem dX5_write_33 : decode cX5_write 33 = .ok (.if_icmp .le 6, 3) := by decide +kernel
theorem dX5_write_36 : decode cX5_write 36 = .ok (.bipush (-2), 2) := by decide +kernel
theorem dX5_write_38 : decode cX5_write 38 = .ok (.ireturn, 1) := by decide +kernel
theorem dX5_write_39 : decode cX5_write 39 = .ok (.aload_n 0, 1) := by decide +kernel
theorem dX5_write_40 : decode cX5_write 40 = .ok (.getfield 11, 3) := by decide +kernel
theorem dX5_write_43 : decode cX5_write 43 = .ok (.iload_n 1, 1) := by decide +kernel
theorem dX5_write_44 : decode cX5_write 44 = .ok (.aaload, 1) := by decide +kernel
theorem dX5_write_45 : decode cX5_write 45 = .ok (.iload_n 2, 1) := by decide +kernel
theorem dX5_write_46 : decode cX5_write 46 = .ok (.iload_n 3, 1) := by decide +kernel
theorem dX5_write_47 : decode cX5_write 47 = .ok (.invokevirtual 77, 3) := by decide +kernel
theorem dX5_write_50 : decode cX5_write 50 = .ok (.istore 5, 2) := by decide +kernel
theorem dX5_write_52 : decode cX5_write 52 = .ok (.aload_n 0, 1) := by decide +kernel
theorem dX5_write_53 : decode cX5_write 53 = .ok (.getfield 11, 3) := by decide +kernel
theorem dX5_write_56 : decode cX5_write 56 = .ok (.iload_n 1, 1) := by decide +kernel
theorem dX5_write_57 : decode cX5_write 57 = .ok (.aaload, 1) := by decide +kernel
theorem dX5_write_58 : decode cX5_write 58 = .ok (.iload_n 2, 1) := by decide +kernel
theorem dX5_write_59 : decode cX5_write 59 = .ok (.iload_n 3, 1) := by decide +kernel
theorem dX5_write_60 : decode cX5_write 60 = .ok (.iload 4, 2) := by decide +kernel
theorem dX5_write_62 : decode cX5_write 62 = .ok (.invokevirtual 81, 3) := by decide +kernel
theorem dX5_write_65 : decode cX5_write 65 = .ok (.iload 5, 2) := by decide +kernel
theorem dX5_write_67 : decode cX5_write 67 = .ok (.ireturn, 1) := by decide +kernel
theorem dX5_mask_0 : decode cX5_mask 0 = .ok (.aload_n 0, 1) := by decide +kernel
theorem dX5_mask_1 : decode cX5_mask 1 = .ok (.iload_n 1, 1) := by decide +kernel
theorem dX5_mask_2 : decode cX5_mask 2 = .ok (.invokevirtual 70, 3) := by decide +kernel
theorem dX5_mask_5 : decode cX5_mask 5 = .ok (.ifCond .ne 5, 3) := by decide +kernel
theorem dX5_mask_8 : decode cX5_mask 8 = .ok (.iconst (-1), 1) := by decide +kernel
theorem dX5_mask_9 : decode cX5_mask 9 = .ok (.ireturn, 1) := by decide +kernel
theorem dX5_mask_10 : decode cX5_mask 10 = .ok (.iload_n 2, 1) := by decide +kernel
theorem dX5_mask_11 : decode cX5_mask 11 = .ok (.invokestatic 85, 3) := by decide +kernel
theorem dX5_mask_14 : decode cX5_mask 14 = .ok (.ifCond .ne 6, 3) := by decide +kernel
theorem dX5_mask_17 : decode cX5_mask 17 = .ok (.bipush (-2), 2) := by decide +kernel
theorem dX5_mask_19 : decode cX5_mask 19 = .ok (.ireturn, 1) := by decide +kernel
theorem dX5_mask_20 : decode cX5_mask 20 = .ok (.aload_n 0, 1) := by decide +kernel
theorem dX5_mask_21 : decode cX5_mask 21 = .ok (.getfield 11, 3) := by decide +kernel
theorem dX5_mask_24 : decode cX5_mask 24 = .ok (.iload_n 1, 1) := by decide +kernel
theorem dX5_mask_25 : decode cX5_mask 25 = .ok (.aaload, 1) := by decide +kernel
theorem dX5_mask_26 : decode cX5_mask 26 = .ok (.iload_n 2, 1) := by decide +kernel
theorem dX5_mask_27 : decode cX5_mask 27 = .ok (.invokevirtual 88, 3) := by decide +kernel
theorem dX5_mask_30 : decode cX5_mask 30 = .ok (.istore 4, 2) := by decide +kernel
theorem dX5_mask_32 : decode cX5_mask 32 = .ok (.aload_n 0, 1) := by decide +kernel
theorem dX5_mask_33 : decode cX5_mask 33 = .ok (.getfield 11, 3) := by decide +kernel
theorem dX5_mask_36 : decode cX5_mask 36 = .ok (.iload_n 1, 1) := by decide +kernel
theorem dX5_mask_37 : decode cX5_mask 37 = .ok (.aaload, 1) := by decide +kernel
theorem dX5_mask_38 : decode cX5_mask 38 = .ok (.iload_n 2, 1) := by decide +kernel
theorem dX5_mask_39 : decode cX5_mask 39 = .ok (.iload_n 3, 1) := by decide +kernel
theorem dX5_mask_40 : decode cX5_mask 40 = .ok (.invokevirtual 91, 3) := by decide +kernel
theorem dX5_mask_43 : decode cX5_mask 43 = .ok (.iload 4, 2) := by decide +kernel
theorem dX5_mask_45 : decode cX5_mask 45 = .ok (.ifCond .eq 7, 3) := by decide +kernel
theorem dX5_mask_48 : decode cX5_mask 48 = .ok (.iconst 1, 1) := by decide +kernel
theorem dX5_mask_49 : decode cX5_mask 49 = .ok (.goto 4, 3) := by decide +kernel
theorem dX5_mask_52 : decode cX5_mask 52 = .ok (.iconst 0, 1) := by decide +kernel
theorem dX5_mask_53 : decode cX5_mask 53 = .ok (.ireturn, 1) := by decide +kernel
theorem dX5_flip_0 : decode cX5_flip 0 = .ok (.aload_n 0, 1) := by decide +kernel
theorem dX5_flip_1 : decode cX5_flip 1 = .ok (.iload_n 1, 1) := by decide +kernel
theorem dX5_flip_2 : decode cX5_flip 2 = .ok (.invokevirtual 70, 3) := by decide +kernel
theorem dX5_flip_5 : decode cX5_flip 5 = .ok (.ifCond .ne 5, 3) := by decide +kernel
theorem dX5_flip_8 : decode cX5_flip 8 = .ok (.iconst (-1), 1) := by decide +kernel
theorem dX5_flip_9 : decode cX5_flip 9 = .ok (.ireturn, 1) := by decide +kernel
theorem dX5_flip_10 : decode cX5_flip 10 = .ok (.aload_n 0, 1) := by decide +kernel
theorem dX5_flip_11 : decode cX5_flip 11 = .ok (.getfield 11, 3) := by decide +kernel
theorem dX5_flip_14 : decode cX5_flip 14 = .ok (.iload_n 1, 1) := by decide +kernel
theorem dX5_flip_15 : decode cX5_flip 15 = .ok (.aaload, 1) := by decide +kernel
theorem dX5_flip_16 : decode cX5_flip 16 = .ok (.invokevirtual 95, 3) := by decide +kernel
theorem dX5_flip_19 : decode cX5_flip 19 = .ok (.aload_n 0, 1) := by decide +kernel
theorem dX5_flip_20 : decode cX5_flip 20 = .ok (.getfield 11, 3) := by decide +kernel
theorem dX5_flip_23 : decode cX5_flip 23 = .ok (.iload_n 1, 1) := by decide +kernel
theorem dX5_flip_24 : decode cX5_flip 24 = .ok (.aaload, 1) := by decide +kernel
theorem dX5_flip_25 : decode cX5_flip 25 = .ok (.getfield 98, 3) := by decide +kernel
theorem dX5_flip_28 : decode cX5_flip 28 = .ok (.ireturn, 1) := by decide +kernel
theorem dX5_turn_0 : decode cX5_turn 0 = .ok (.aload_n 0, 1) := by decide +kernel
theorem dX5_turn_1 : decode cX5_turn 1 = .ok (.iload_n 1, 1) := by decide +kernel
theorem dX5_turn_2 : decode cX5_turn 2 = .ok (.invokevirtual 70, 3) := by decide +kernel
theorem dX5_turn_5 : decode cX5_turn 5 = .ok (.ifCond .eq 15, 3) := by decide +kernel
theorem dX5_turn_8 : decode cX5_turn 8 = .ok (.aload_n 0, 1) := by decide +kernel
theorem dX5_turn_9 : decode cX5_turn 9 = .ok (.getfield 11, 3) := by decide +kernel
theorem dX5_turn_12 : decode cX5_turn 12 = .ok (.iload_n 1, 1) := by decide +kernel
theorem dX5_turn_13 : decode cX5_turn 13 = .ok (.aaload, 1) := by decide +kernel
theorem dX5_turn_14 : decode cX5_turn 14 = .ok (.invokevirtual 101, 3) := by decide +kernel
theorem dX5_turn_17 : decode cX5_turn 17 = .ok (.goto 4, 3) := by decide +kernel
theorem dX5_turn_20 : decode cX5_turn 20 = .ok (.iconst (-1), 1) := by decide +kernel
theorem dX5_turn_21 : decode cX5_turn 21 = .ok (.ireturn, 1) := by decide +kernel
theorem dX5_lift_0 : decode cX5_lift 0 = .ok (.aload_n 0, 1) := by decide +kernel
theorem dX5_lift_1 : decode cX5_lift 1 = .ok (.iload_n 1, 1) := by decide +kernel
theorem dX5_lift_2 : decode cX5_lift 2 = .ok (.invokevirtual 70, 3) := by decide +kernel
theorem dX5_lift_5 : decode cX5_lift 5 = .ok (.ifCond .ne 5, 3) := by decide +kernel
theorem dX5_lift_8 : decode cX5_lift 8 = .ok (.iconst (-1), 1) := by decide +kernel
theorem dX5_lift_9 : decode cX5_lift 9 = .ok (.ireturn, 1) := by decide +kernel
theorem dX5_lift_10 : decode cX5_lift 10 = .ok (.iload_n 2, 1) := by decide +kernel
theorem dX5_lift_11 : decode cX5_lift 11 = .ok (.bipush (-9), 2) := by decide +kernel
theorem dX5_lift_13 : decode cX5_lift 13 = .ok (.if_icmp .lt 9, 3) := by decide +kernel
theorem dX5_lift_16 : decode cX5_lift 16 = .ok (.iload_n 2, 1) := by decide +kernel
theorem dX5_lift_17 : decode cX5_lift 17 = .ok (.bipush 9, 2) := by decide +kernel
theorem dX5_lift_19 : decode cX5_lift 19 = .ok (.if_icmp .le 6, 3) := by decide +kernel
theorem dX5_lift_22 : decode cX5_lift 22 = .ok (.bipush (-2), 2) := by decide +kernel
theorem dX5_lift_24 : decode cX5_lift 24 = .ok (.ireturn, 1) := by decide +kernel
theorem dX5_lift_25 : decode cX5_lift 25 = .ok (.aload_n 0, 1) := by decide +kernel
theorem dX5_lift_26 : decode cX5_lift 26 = .ok (.getfield 11, 3) := by decide +kernel
theorem dX5_lift_29 : decode cX5_lift 29 = .ok (.iload_n 1, 1) := by decide +kernel
theorem dX5_lift_30 : decode cX5_lift 30 = .ok (.aaload, 1) := by decide +kernel
theorem dX5_lift_31 : decode cX5_lift 31 = .ok (.iload_n 2, 1) := by decide +kernel
theorem dX5_lift_32 : decode cX5_lift 32 = .ok (.invokevirtual 105, 3) := by decide +kernel
theorem dX5_lift_35 : decode cX5_lift 35 = .ok (.ifCond .eq 16, 3) := by decide +kernel
theorem dX5_lift_38 : decode cX5_lift 38 = .ok (.aload_n 0, 1) := by decide +kernel
theorem dX5_lift_39 : decode cX5_lift 39 = .ok (.getfield 11, 3) := by decide +kernel
theorem dX5_lift_42 : decode cX5_lift 42 = .ok (.iload_n 1, 1) := by decide +kernel
theorem dX5_lift_43 : decode cX5_lift 43 = .ok (.aaload, 1) := by decide +kernel
theorem dX5_lift_44 : decode cX5_lift 44 = .ok (.iload_n 2, 1) := by decide +kernel
theorem dX5_lift_45 : decode cX5_lift 45 = .ok (.invokevirtual 108, 3) := by decide +kernel
theorem dX5_lift_48 : decode cX5_lift 48 = .ok (.goto 5, 3) := by decide +kernel
theorem dX5_lift_51 : decode cX5_lift 51 = .ok (.bipush (-4), 2) := by decide +kernel
theorem dX5_lift_53 : decode cX5_lift 53 = .ok (.ireturn, 1) := by decide +kernel
theorem dX5_changeTempo_0 : decode cX5_changeTempo 0 = .ok (.iload_n 1, 1) := by decide +kernel
theorem dX5_changeTempo_1 : decode cX5_changeTempo 1 = .ok (.iconst 1, 1) := by decide +kernel
theorem dX5_changeTempo_2 : decode cX5_changeTempo 2 = .ok (.if_icmp .lt 8, 3) := by decide +kernel
theorem dX5_changeTempo_5 : decode cX5_changeTempo 5 = .ok (.iload_n 1, 1) := by decide +kernel
theorem dX5_changeTempo_6 : decode cX5_changeTempo 6 = .ok (.iconst 5, 1) := by decide +kernel
theorem dX5_changeTempo_7 : decode cX5_changeTempo 7 = .ok (.if_icmp .le 6, 3) := by decide +kernel
theorem dX5_changeTempo_10 : decode cX5_changeTempo 10 = .ok (.bipush (-2), 2) := by decide +kernel
theorem dX5_changeTempo_12 : decode cX5_changeTempo 12 = .ok (.ireturn, 1) := by decide +kernel
theorem dX5_changeTempo_13 : decode cX5_changeTempo 13 = .ok (.aload_n 0, 1) := by decide +kernel
theorem dX5_changeTempo_14 : decode cX5_changeTempo 14 = .ok (.getfield 21, 3) := by decide +kernel
theorem dX5_changeTempo_17 : decode cX5_changeTempo 17 = .ok (.istore_n 2, 1) := by decide +kernel
theorem dX5_changeTempo_18 : decode cX5_changeTempo 18 = .ok (.aload_n 0, 1) := by decide +kernel
theorem dX5_changeTempo_19 : decode cX5_changeTempo 19 = .ok (.iload_n 1, 1) := by decide +kernel
theorem dX5_changeTempo_20 : decode cX5_changeTempo 20 = .ok (.putfield 21, 3) := by decide +kernel
theorem dX5_changeTempo_23 : decode cX5_changeTempo 23 = .ok (.iload_n 2, 1) := by decide +kernel
theorem dX5_changeTempo_24 : decode cX5_changeTempo 24 = .ok (.ireturn, 1) := by decide +kernel
theorem dX5_changeLimit_0 : decode cX5_changeLimit 0 = .ok (.iload_n 1, 1) := by decide +kernel
theorem dX5_changeLimit_1 : decode cX5_changeLimit 1 = .ok (.iconst 1, 1) := by decide +kernel
theorem dX5_changeLimit_2 : decode cX5_changeLimit 2 = .ok (.if_icmp .lt 9, 3) := by decide +kernel
theorem dX5_changeLimit_5 : decode cX5_changeLimit 5 = .ok (.iload_n 1, 1) := by decide +kernel
theorem dX5_changeLimit_6 : decode cX5_changeLimit 6 = .ok (.bipush 99, 2) := by decide +kernel
theorem dX5_changeLimit_8 : decode cX5_changeLimit 8 = .ok (.if_icmp .le 6, 3) := by decide +kernel
theorem dX5_changeLimit_11 : decode cX5_changeLimit 11 = .ok (.bipush (-2), 2) := by decide +kernel
theorem dX5_changeLimit_13 : decode cX5_changeLimit 13 = .ok (.ireturn, 1) := by decide +kernel
theorem dX5_changeLimit_14 : decode cX5_changeLimit 14 = .ok (.aload_n 0, 1) := by decide +kernel
theorem dX5_changeLimit_15 : decode cX5_changeLimit 15 = .ok (.getfield 24, 3) := by decide +kernel
theorem dX5_changeLimit_18 : decode cX5_changeLimit 18 = .ok (.istore_n 2, 1) := by decide +kernel
theorem dX5_changeLimit_19 : decode cX5_changeLimit 19 = .ok (.aload_n 0, 1) := by decide +kernel
theorem dX5_changeLimit_20 : decode cX5_changeLimit 20 = .ok (.iload_n 1, 1) := by decide +kernel
theorem dX5_changeLimit_21 : decode cX5_changeLimit 21 = .ok (.putfield 24, 3) := by decide +kernel
theorem dX5_changeLimit_24 : decode cX5_changeLimit 24 = .ok (.iload_n 2, 1) := by decide +kernel
theorem dX5_changeLimit_25 : decode cX5_changeLimit 25 = .ok (.ireturn, 1) := by decide +kernel
theorem dX5_play_0 : decode cX5_play 0 = .ok (.iconst 0, 1) := by decide +kernel
theorem dX5_play_1 : decode cX5_play 1 = .ok (.istore_n 2, 1) := by decide +kernel
theorem dX5_play_2 : decode cX5_play 2 = .ok (.iconst 0, 1) := by decide +kernel
theorem dX5_play_3 : decode cX5_play 3 = .ok (.istore_n 3, 1) := by decide +kernel
theorem dX5_play_4 : decode cX5_play 4 = .ok (.iload_n 3, 1) := by decide +kernel
theorem dX5_play_5 : decode cX5_play 5 = .ok (.iload_n 1, 1) := by decide +kernel
theorem dX5_play_6 : decode cX5_play 6 = .ok (.if_icmp .ge 16, 3) := by decide +kernel
theorem dX5_play_9 : decode cX5_play 9 = .ok (.iload_n 2, 1) := by decide +kernel
theorem dX5_play_10 : decode cX5_play 10 = .ok (.aload_n 0, 1) := by decide +kernel
theorem dX5_play_11 : decode cX5_play 11 = .ok (.invokevirtual 112, 3) := by decide +kernel
theorem dX5_play_14 : decode cX5_play 14 = .ok (.iadd, 1) := by decide +kernel
theorem dX5_play_15 : decode cX5_play 15 = .ok (.istore_n 2, 1) := by decide +kernel
theorem dX5_play_16 : decode cX5_play 16 = .ok (.iinc 3 1, 3) := by decide +kernel
theorem dX5_play_19 : decode cX5_play 19 = .ok (.goto (-15), 3) := by decide +kernel
theorem dX5_play_22 : decode cX5_play 22 = .ok (.iload_n 2, 1) := by decide +kernel
theorem dX5_play_23 : decode cX5_play 23 = .ok (.ireturn, 1) := by decide +kernel
theorem dX5_playBeat_0 : decode cX5_playBeat 0 = .ok (.iconst 0, 1) := by decide +kernel
theorem dX5_playBeat_1 : decode cX5_playBeat 1 = .ok (.istore_n 1, 1) := by decide +kernel
theorem dX5_playBeat_2 : decode cX5_playBeat 2 = .ok (.iconst 0, 1) := by decide +kernel
theorem dX5_playBeat_3 : decode cX5_playBeat 3 = .ok (.istore_n 2, 1) := by decide +kernel
theorem dX5_playBeat_4 : decode cX5_playBeat 4 = .ok (.iconst 0, 1) := by decide +kernel
theorem dX5_playBeat_5 : decode cX5_playBeat 5 = .ok (.istore_n 3, 1) := by decide +kernel
theorem dX5_playBeat_6 : decode cX5_playBeat 6 = .ok (.iconst 0, 1) := by decide +kernel
theorem dX5_playBeat_7 : decode cX5_playBeat 7 = .ok (.istore 4, 2) := by decide +kernel
theorem dX5_playBeat_9 : decode cX5_playBeat 9 = .ok (.iload 4, 2) := by decide +kernel
theorem dX5_playBeat_11 : decode cX5_playBeat 11 = .ok (.aload_n 0, 1) := by decide +kernel
theorem dX5_playBeat_12 : decode cX5_playBeat 12 = .ok (.getfield 17, 3) := by decide +kernel
theorem dX5_playBeat_15 : decode cX5_playBeat 15 = .ok (.if_icmp .ge 49, 3) := by decide +kernel
theorem dX5_playBeat_18 : decode cX5_playBeat 18 = .ok (.iload 4, 2) := by decide +kernel
theorem dX5_playBeat_20 : decode cX5_playBeat 20 = .ok (.aload_n 0, 1) := by decide +kernel
theorem dX5_playBeat_21 : decode cX5_playBeat 21 = .ok (.getfield 11, 3) := by decide +kernel
theorem dX5_playBeat_24 : decode cX5_playBeat 24 = .ok (.arraylength, 1) := by decide +kernel
theorem dX5_playBeat_25 : decode cX5_playBeat 25 = .ok (.if_icmp .ge 39, 3) := by decide +kernel
theorem dX5_playBeat_28 : decode cX5_playBeat 28 = .ok (.aload_n 0, 1) := by decide +kernel
theorem dX5_playBeat_29 : decode cX5_playBeat 29 = .ok (.aload_n 0, 1) := by decide +kernel
theorem dX5_playBeat_30 : decode cX5_playBeat 30 = .ok (.getfield 11, 3) := by decide +kernel
theorem dX5_playBeat_33 : decode cX5_playBeat 33 = .ok (.iload 4, 2) := by decide +kernel
theorem dX5_playBeat_35 : decode cX5_playBeat 35 = .ok (.aaload, 1) := by decide +kernel
theorem dX5_playBeat_36 : decode cX5_playBeat 36 = .ok (.invokevirtual 115, 3) := by decide +kernel
theorem dX5_playBeat_39 : decode cX5_playBeat 39 = .ok (.istore 5, 2) := by decide +kernel
theorem dX5_playBeat_41 : decode cX5_playBeat 41 = .ok (.iload_n 1, 1) := by decide +kernel
theorem dX5_playBeat_42 : decode cX5_playBeat 42 = .ok (.iload 5, 2) := by decide +kernel
theorem dX5_playBeat_44 : decode cX5_playBeat 44 = .ok (.iadd, 1) := by decide +kernel
theorem dX5_playBeat_45 : decode cX5_playBeat 45 = .ok (.istore_n 1, 1) := by decide +kernel
theorem dX5_playBeat_46 : decode cX5_playBeat 46 = .ok (.iload 5, 2) := by decide +kernel
theorem dX5_playBeat_48 : decode cX5_playBeat 48 = .ok (.iload_n 3, 1) := by decide +kernel
theorem dX5_playBeat_49 : decode cX5_playBeat 49 = .ok (.if_icmp .le 9, 3) := by decide +kernel
theorem dX5_playBeat_52 : decode cX5_playBeat 52 = .ok (.iload 5, 2) := by decide +kernel
theorem dX5_playBeat_54 : decode cX5_playBeat 54 = .ok (.istore_n 3, 1) := by decide +kernel
theorem dX5_playBeat_55 : decode cX5_playBeat 55 = .ok (.iload 4, 2) := by decide +kernel
theorem dX5_playBeat_57 : decode cX5_playBeat 57 = .ok (.istore_n 2, 1) := by decide +kernel
theorem dX5_playBeat_58 : decode cX5_playBeat 58 = .ok (.iinc 4 1, 3) := by decide +kernel
theorem dX5_playBeat_61 : decode cX5_playBeat 61 = .ok (.goto (-52), 3) := by decide +kernel
theorem dX5_playBeat_64 : decode cX5_playBeat 64 = .ok (.iload_n 1, 1) := by decide +kernel
theorem dX5_playBeat_65 : decode cX5_playBeat 65 = .ok (.aload_n 0, 1) := by decide +kernel
theorem dX5_playBeat_66 : decode cX5_playBeat 66 = .ok (.getfield 24, 3) := by decide +kernel
theorem dX5_playBeat_69 : decode cX5_playBeat 69 = .ok (.if_icmp .le 22, 3) := by decide +kernel
theorem dX5_playBeat_72 : decode cX5_playBeat 72 = .ok (.aload_n 0, 1) := by decide +kernel
theorem dX5_playBeat_73 : decode cX5_playBeat 73 = .ok (.dup, 1) := by decide +kernel
theorem dX5_playBeat_74 : decode cX5_playBeat 74 = .ok (.getfield 30, 3) := by decide +kernel
theorem dX5_playBeat_77 : decode cX5_playBeat 77 = .ok (.iconst 1, 1) := by decide +kernel
theorem dX5_playBeat_78 : decode cX5_playBeat 78 = .ok (.iadd, 1) := by decide +kernel
theorem dX5_playBeat_79 : decode cX5_playBeat 79 = .ok (.putfield 30, 3) := by decide +kernel
theorem dX5_playBeat_82 : decode cX5_playBeat 82 = .ok (.aload_n 0, 1) := by decide +kernel
theorem dX5_playBeat_83 : decode cX5_playBeat 83 = .ok (.getfield 11, 3) := by decide +kernel
theorem dX5_playBeat_86 : decode cX5_playBeat 86 = .ok (.iload_n 2, 1) := by decide +kernel
theorem dX5_playBeat_87 : decode cX5_playBeat 87 = .ok (.aaload, 1) := by decide +kernel
theorem dX5_playBeat_88 : decode cX5_playBeat 88 = .ok (.invokevirtual 119, 3) := by decide +kernel
theorem dX5_playBeat_91 : decode cX5_playBeat 91 = .ok (.aload_n 0, 1) := by decide +kernel
theorem dX5_playBeat_92 : decode cX5_playBeat 92 = .ok (.iload_n 1, 1) := by decide +kernel
theorem dX5_playBeat_93 : decode cX5_playBeat 93 = .ok (.invokevirtual 122, 3) := by decide +kernel
theorem dX5_playBeat_96 : decode cX5_playBeat 96 = .ok (.iload_n 1, 1) := by decide +kernel
theorem dX5_playBeat_97 : decode cX5_playBeat 97 = .ok (.ireturn, 1) := by decide +kernel
theorem dX5_playSection_0 : decode cX5_playSection 0 = .ok (.aload_n 1, 1) := by decide +kernel
theorem dX5_playSection_1 : decode cX5_playSection 1 = .ok (.getfield 126, 3) := by decide +kernel
theorem dX5_playSection_4 : decode cX5_playSection 4 = .ok (.ifCond .le 15, 3) := by decide +kernel
theorem dX5_playSection_7 : decode cX5_playSection 7 = .ok (.aload_n 1, 1) := by decide +kernel
theorem dX5_playSection_8 : decode cX5_playSection 8 = .ok (.dup, 1) := by decide +kernel
theorem dX5_playSection_9 : decode cX5_playSection 9 = .ok (.getfield 126, 3) := by decide +kernel
theorem dX5_playSection_12 : decode cX5_playSection 12 = .ok (.iconst 1, 1) := by decide +kernel
theorem dX5_playSection_13 : decode cX5_playSection 13 = .ok (.isub, 1) := by decide +kernel
theorem dX5_playSection_14 : decode cX5_playSection 14 = .ok (.putfield 126, 3) := by decide +kernel
theorem dX5_playSection_17 : decode cX5_playSection 17 = .ok (.iconst 0, 1) := by decide +kernel
theorem dX5_playSection_18 : decode cX5_playSection 18 = .ok (.ireturn, 1) := by decide +kernel
theorem dX5_playSection_19 : decode cX5_playSection 19 = .ok (.aload_n 1, 1) := by decide +kernel
theorem dX5_playSection_20 : decode cX5_playSection 20 = .ok (.aload_n 0, 1) := by decide +kernel
theorem dX5_playSection_21 : decode cX5_playSection 21 = .ok (.getfield 27, 3) := by decide +kernel
theorem dX5_playSection_24 : decode cX5_playSection 24 = .ok (.invokevirtual 129, 3) := by decide +kernel
theorem dX5_playSection_27 : decode cX5_playSection 27 = .ok (.istore_n 2, 1) := by decide +kernel
theorem dX5_playSection_28 : decode cX5_playSection 28 = .ok (.aload_n 1, 1) := by decide +kernel
theorem dX5_playSection_29 : decode cX5_playSection 29 = .ok (.iload_n 2, 1) := by decide +kernel
theorem dX5_playSection_30 : decode cX5_playSection 30 = .ok (.invokevirtual 88, 3) := by decide +kernel
theorem dX5_playSection_33 : decode cX5_playSection 33 = .ok (.ifCond .eq 5, 3) := by decide +kernel
theorem dX5_playSection_36 : decode cX5_playSection 36 = .ok (.iconst 0, 1) := by decide +kernel
theorem dX5_playSection_37 : decode cX5_playSection 37 = .ok (.ireturn, 1) := by decide +kernel
theorem dX5_playSection_38 : decode cX5_playSection 38 = .ok (.aload_n 0, 1) := by decide +kernel
theorem dX5_playSection_39 : decode cX5_playSection 39 = .ok (.aload_n 1, 1) := by decide +kernel
theorem dX5_playSection_40 : decode cX5_playSection 40 = .ok (.iload_n 2, 1) := by decide +kernel
theorem dX5_playSection_41 : decode cX5_playSection 41 = .ok (.invokevirtual 132, 3) := by decide +kernel
theorem dX5_playSection_44 : decode cX5_playSection 44 = .ok (.aload_n 1, 1) := by decide +kernel
theorem dX5_playSection_45 : decode cX5_playSection 45 = .ok (.iload_n 2, 1) := by decide +kernel
theorem dX5_playSection_46 : decode cX5_playSection 46 = .ok (.invokevirtual 136, 3) := by decide +kernel
theorem dX5_playSection_49 : decode cX5_playSection 49 = .ok (.istore_n 3, 1) := by decide +kernel
theorem dX5_playSection_50 : decode cX5_playSection 50 = .ok (.aload_n 1, 1) := by decide +kernel
theorem dX5_playSection_51 : decode cX5_playSection 51 = .ok (.dup, 1) := by decide +kernel
theorem dX5_playSection_52 : decode cX5_playSection 52 = .ok (.getfield 139, 3) := by decide +kernel
theorem dX5_playSection_55 : decode cX5_playSection 55 = .ok (.iload_n 3, 1) := by decide +kernel
theorem dX5_playSection_56 : decode cX5_playSection 56 = .ok (.iadd, 1) := by decide +kernel
theorem dX5_playSection_57 : decode cX5_playSection 57 = .ok (.putfield 139, 3) := by decide +kernel
theorem dX5_playSection_60 : decode cX5_playSection 60 = .ok (.iload_n 3, 1) := by decide +kernel
theorem dX5_playSection_61 : decode cX5_playSection 61 = .ok (.ireturn, 1) := by decide +kernel
theorem dX5_recordSounds_0 : decode cX5_recordSounds 0 = .ok (.aload_n 1, 1) := by decide +kernel
theorem dX5_recordSounds_1 : decode cX5_recordSounds 1 = .ok (.getfield 142, 3) := by decide +kernel
theorem dX5_recordSounds_4 : decode cX5_recordSounds 4 = .ok (.invokestatic 58, 3) := by decide +kernel
theorem dX5_recordSounds_7 : decode cX5_recordSounds 7 = .ok (.bipush 10, 2) := by decide +kernel
theorem dX5_recordSounds_9 : decode cX5_recordSounds 9 = .ok (.imul, 1) := by decide +kernel
theorem dX5_recordSounds_10 : decode cX5_recordSounds 10 = .ok (.istore_n 3, 1) := by decide +kernel
theorem dX5_recordSounds_11 : decode cX5_recordSounds 11 = .ok (.iload_n 2, 1) := by decide +kernel
theorem dX5_recordSounds_12 : decode cX5_recordSounds 12 = .ok (.istore 4, 2) := by decide +kernel
theorem dX5_recordSounds_14 : decode cX5_recordSounds 14 = .ok (.iload 4, 2) := by decide +kernel
theorem dX5_recordSounds_16 : decode cX5_recordSounds 16 = .ok (.ifCond .lt 66, 3) := by decide +kernel
theorem dX5_recordSounds_19 : decode cX5_recordSounds 19 = .ok (.iload 4, 2) := by decide +kernel
theorem dX5_recordSounds_21 : decode cX5_recordSounds 21 = .ok (.aload_n 1, 1) := by decide +kernel
theorem dX5_recordSounds_22 : decode cX5_recordSounds 22 = .ok (.getfield 146, 3) := by decide +kernel
theorem dX5_recordSounds_25 : decode cX5_recordSounds 25 = .ok (.arraylength, 1) := by decide +kernel
theorem dX5_recordSounds_26 : decode cX5_recordSounds 26 = .ok (.if_icmp .ge 56, 3) := by decide +kernel
theorem dX5_recordSounds_29 : decode cX5_recordSounds 29 = .ok (.iload_n 3, 1) := by decide +kernel
theorem dX5_recordSounds_30 : decode cX5_recordSounds 30 = .ok (.aload_n 1, 1) := by decide +kernel
theorem dX5_recordSounds_31 : decode cX5_recordSounds 31 = .ok (.getfield 146, 3) := by decide +kernel
theorem dX5_recordSounds_34 : decode cX5_recordSounds 34 = .ok (.iload 4, 2) := by decide +kernel
theorem dX5_recordSounds_36 : decode cX5_recordSounds 36 = .ok (.iaload, 1) := by decide +kernel
theorem dX5_recordSounds_37 : decode cX5_recordSounds 37 = .ok (.iadd, 1) := by decide +kernel
theorem dX5_recordSounds_38 : decode cX5_recordSounds 38 = .ok (.istore 5, 2) := by decide +kernel
theorem dX5_recordSounds_40 : decode cX5_recordSounds 40 = .ok (.aload_n 1, 1) := by decide +kernel
theorem dX5_recordSounds_41 : decode cX5_recordSounds 41 = .ok (.getfield 146, 3) := by decide +kernel
theorem dX5_recordSounds_44 : decode cX5_recordSounds 44 = .ok (.iload 4, 2) := by decide +kernel
theorem dX5_recordSounds_46 : decode cX5_recordSounds 46 = .ok (.iaload, 1) := by decide +kernel
theorem dX5_recordSounds_47 : decode cX5_recordSounds 47 = .ok (.ifCond .eq 29, 3) := by decide +kernel
theorem dX5_recordSounds_50 : decode cX5_recordSounds 50 = .ok (.iload 5, 2) := by decide +kernel
theorem dX5_recordSounds_52 : decode cX5_recordSounds 52 = .ok (.ifCond .lt 24, 3) := by decide +kernel
theorem dX5_recordSounds_55 : decode cX5_recordSounds 55 = .ok (.iload 5, 2) := by decide +kernel
theorem dX5_recordSounds_57 : decode cX5_recordSounds 57 = .ok (.aload_n 0, 1) := by decide +kernel
theorem dX5_recordSounds_58 : decode cX5_recordSounds 58 = .ok (.getfield 40, 3) := by decide +kernel
theorem dX5_recordSounds_61 : decode cX5_recordSounds 61 = .ok (.arraylength, 1) := by decide +kernel
theorem dX5_recordSounds_62 : decode cX5_recordSounds 62 = .ok (.if_icmp .ge 14, 3) := by decide +kernel
theorem dX5_recordSounds_65 : decode cX5_recordSounds 65 = .ok (.aload_n 0, 1) := by decide +kernel
theorem dX5_recordSounds_66 : decode cX5_recordSounds 66 = .ok (.getfield 40, 3) := by decide +kernel
theorem dX5_recordSounds_69 : decode cX5_recordSounds 69 = .ok (.iload 5, 2) := by decide +kernel
theorem dX5_recordSounds_71 : decode cX5_recordSounds 71 = .ok (.dup2, 1) := by decide +kernel
theorem dX5_recordSounds_72 : decode cX5_recordSounds 72 = .ok (.iaload, 1) := by decide +kernel
theorem dX5_recordSounds_73 : decode cX5_recordSounds 73 = .ok (.iconst 1, 1) := by decide +kernel
theorem dX5_recordSounds_74 : decode cX5_recordSounds 74 = .ok (.iadd, 1) := by decide +kernel
theorem dX5_recordSounds_75 : decode cX5_recordSounds 75 = .ok (.iastore, 1) := by decide +kernel
theorem dX5_recordSounds_76 : decode cX5_recordSounds 76 = .ok (.iinc 4 6, 3) := by decide +kernel
theorem dX5_recordSounds_79 : decode cX5_recordSounds 79 = .ok (.goto (-65), 3) := by decide +kernel
theorem dX5_recordSounds_82 : decode cX5_recordSounds 82 = .ok (.return_, 1) := by decide +kernel
theorem dX5_logTotal_0 : decode cX5_logTotal 0 = .ok (.aload_n 0, 1) := by decide +kernel
theorem dX5_logTotal_1 : decode cX5_logTotal 1 = .ok (.getfield 27, 3) := by decide +kernel
theorem dX5_logTotal_4 : decode cX5_logTotal 4 = .ok (.bipush 10, 2) := by decide +kernel
theorem dX5_logTotal_6 : decode cX5_logTotal 6 = .ok (.irem, 1) := by decide +kernel
theorem dX5_logTotal_7 : decode cX5_logTotal 7 = .ok (.istore_n 2, 1) := by decide +kernel
theorem dX5_logTotal_8 : decode cX5_logTotal 8 = .ok (.iload_n 2, 1) := by decide +kernel
theorem dX5_logTotal_9 : decode cX5_logTotal 9 = .ok (.ifCond .lt 19, 3) := by decide +kernel
theorem dX5_logTotal_12 : decode cX5_logTotal 12 = .ok (.iload_n 2, 1) := by decide +kernel
theorem dX5_logTotal_13 : decode cX5_logTotal 13 = .ok (.aload_n 0, 1) := by decide +kernel
theorem dX5_logTotal_14 : decode cX5_logTotal 14 = .ok (.getfield 44, 3) := by decide +kernel
theorem dX5_logTotal_17 : decode cX5_logTotal 17 = .ok (.arraylength, 1) := by decide +kernel
theorem dX5_logTotal_18 : decode cX5_logTotal 18 = .ok (.if_icmp .ge 10, 3) := by decide +kernel
theorem dX5_logTotal_21 : decode cX5_logTotal 21 = .ok (.aload_n 0, 1) := by decide +kernel
theorem dX5_logTotal_22 : decode cX5_logTotal 22 = .ok (.getfield 44, 3) := by decide +kernel
theorem dX5_logTotal_25 : decode cX5_logTotal 25 = .ok (.iload_n 2, 1) := by decide +kernel
theorem dX5_logTotal_26 : decode cX5_logTotal 26 = .ok (.iload_n 1, 1) := by decide +kernel
theorem dX5_logTotal_27 : decode cX5_logTotal 27 = .ok (.iastore, 1) := by decide +kernel
theorem dX5_logTotal_28 : decode cX5_logTotal 28 = .ok (.aload_n 0, 1) := by decide +kernel
theorem dX5_logTotal_29 : decode cX5_logTotal 29 = .ok (.aload_n 0, 1) := by decide +kernel
theorem dX5_logTotal_30 : decode cX5_logTotal 30 = .ok (.getfield 33, 3) := by decide +kernel
theorem dX5_logTotal_33 : decode cX5_logTotal 33 = .ok (.iload_n 1, 1) := by decide +kernel
theorem dX5_logTotal_34 : decode cX5_logTotal 34 = .ok (.invokestatic 149, 3) := by decide +kernel
theorem dX5_logTotal_37 : decode cX5_logTotal 37 = .ok (.putfield 33, 3) := by decide +kernel
theorem dX5_logTotal_40 : decode cX5_logTotal 40 = .ok (.aload_n 0, 1) := by decide +kernel
theorem dX5_logTotal_41 : decode cX5_logTotal 41 = .ok (.dup, 1) := by decide +kernel
theorem dX5_logTotal_42 : decode cX5_logTotal 42 = .ok (.getfield 36, 3) := by decide +kernel
theorem dX5_logTotal_45 : decode cX5_logTotal 45 = .ok (.iload_n 1, 1) := by decide +kernel
theorem dX5_logTotal_46 : decode cX5_logTotal 46 = .ok (.i2l, 1) := by decide +kernel
theorem dX5_logTotal_47 : decode cX5_logTotal 47 = .ok (.ladd, 1) := by decide +kernel
theorem dX5_logTotal_48 : decode cX5_logTotal 48 = .ok (.putfield 36, 3) := by decide +kernel
theorem dX5_logTotal_51 : decode cX5_logTotal 51 = .ok (.aload_n 0, 1) := by decide +kernel
theorem dX5_logTotal_52 : decode cX5_logTotal 52 = .ok (.dup, 1) := by decide +kernel
theorem dX5_logTotal_53 : decode cX5_logTotal 53 = .ok (.getfield 27, 3) := by decide +kernel
theorem dX5_logTotal_56 : decode cX5_logTotal 56 = .ok (.iconst 1, 1) := by decide +kernel
theorem dX5_logTotal_57 : decode cX5_logTotal 57 = .ok (.iadd, 1) := by decide +kernel
theorem dX5_logTotal_58 : decode cX5_logTotal 58 = .ok (.putfield 27, 3) := by decide +kernel
theorem dX5_logTotal_61 : decode cX5_logTotal 61 = .ok (.return_, 1) := by decide +kernel
theorem dX5_totalOf_0 : decode cX5_totalOf 0 = .ok (.iload_n 1, 1) := by decide +kernel
theorem dX5_totalOf_1 : decode cX5_totalOf 1 = .ok (.bipush 10, 2) := by decide +kernel
theorem dX5_totalOf_3 : decode cX5_totalOf 3 = .ok (.irem, 1) := by decide +kernel
theorem dX5_totalOf_4 : decode cX5_totalOf 4 = .ok (.istore_n 2, 1) := by decide +kernel
theorem dX5_totalOf_5 : decode cX5_totalOf 5 = .ok (.iload_n 2, 1) := by decide +kernel
theorem dX5_totalOf_6 : decode cX5_totalOf 6 = .ok (.ifCond .lt 21, 3) := by decide +kernel
theorem dX5_totalOf_9 : decode cX5_totalOf 9 = .ok (.iload_n 2, 1) := by decide +kernel
theorem dX5_totalOf_10 : decode cX5_totalOf 10 = .ok (.aload_n 0, 1) := by decide +kernel
theorem dX5_totalOf_11 : decode cX5_totalOf 11 = .ok (.getfield 44, 3) := by decide +kernel
theorem dX5_totalOf_14 : decode cX5_totalOf 14 = .ok (.arraylength, 1) := by decide +kernel
theorem dX5_totalOf_15 : decode cX5_totalOf 15 = .ok (.if_icmp .ge 12, 3) := by decide +kernel
theorem dX5_totalOf_18 : decode cX5_totalOf 18 = .ok (.aload_n 0, 1) := by decide +kernel
theorem dX5_totalOf_19 : decode cX5_totalOf 19 = .ok (.getfield 44, 3) := by decide +kernel
theorem dX5_totalOf_22 : decode cX5_totalOf 22 = .ok (.iload_n 2, 1) := by decide +kernel
theorem dX5_totalOf_23 : decode cX5_totalOf 23 = .ok (.iaload, 1) := by decide +kernel
theorem dX5_totalOf_24 : decode cX5_totalOf 24 = .ok (.goto 4, 3) := by decide +kernel
theorem dX5_totalOf_27 : decode cX5_totalOf 27 = .ok (.iconst 0, 1) := by decide +kernel
theorem dX5_totalOf_28 : decode cX5_totalOf 28 = .ok (.ireturn, 1) := by decide +kernel
theorem dX5_soundsOf_0 : decode cX5_soundsOf 0 = .ok (.iload_n 1, 1) := by decide +kernel
theorem dX5_soundsOf_1 : decode cX5_soundsOf 1 = .ok (.invokestatic 58, 3) := by decide +kernel
theorem dX5_soundsOf_4 : decode cX5_soundsOf 4 = .ok (.bipush 10, 2) := by decide +kernel
theorem dX5_soundsOf_6 : decode cX5_soundsOf 6 = .ok (.imul, 1) := by decide +kernel
theorem dX5_soundsOf_7 : decode cX5_soundsOf 7 = .ok (.iload_n 2, 1) := by decide +kernel
theorem dX5_soundsOf_8 : decode cX5_soundsOf 8 = .ok (.iadd, 1) := by decide +kernel
theorem dX5_soundsOf_9 : decode cX5_soundsOf 9 = .ok (.istore_n 3, 1) := by decide +kernel
theorem dX5_soundsOf_10 : decode cX5_soundsOf 10 = .ok (.iload_n 3, 1) := by decide +kernel
theorem dX5_soundsOf_11 : decode cX5_soundsOf 11 = .ok (.ifCond .lt 21, 3) := by decide +kernel
theorem dX5_soundsOf_14 : decode cX5_soundsOf 14 = .ok (.iload_n 3, 1) := by decide +kernel
theorem dX5_soundsOf_15 : decode cX5_soundsOf 15 = .ok (.aload_n 0, 1) := by decide +kernel
theorem dX5_soundsOf_16 : decode cX5_soundsOf 16 = .ok (.getfield 40, 3) := by decide +kernel
theorem dX5_soundsOf_19 : decode cX5_soundsOf 19 = .ok (.arraylength, 1) := by decide +kernel
theorem dX5_soundsOf_20 : decode cX5_soundsOf 20 = .ok (.if_icmp .ge 12, 3) := by decide +kernel
theorem dX5_soundsOf_23 : decode cX5_soundsOf 23 = .ok (.aload_n 0, 1) := by decide +kernel
theorem dX5_soundsOf_24 : decode cX5_soundsOf 24 = .ok (.getfield 40, 3) := by decide +kernel
theorem dX5_soundsOf_27 : decode cX5_soundsOf 27 = .ok (.iload_n 3, 1) := by decide +kernel
theorem dX5_soundsOf_28 : decode cX5_soundsOf 28 = .ok (.iaload, 1) := by decide +kernel
theorem dX5_soundsOf_29 : decode cX5_soundsOf 29 = .ok (.goto 4, 3) := by decide +kernel
theorem dX5_soundsOf_32 : decode cX5_soundsOf 32 = .ok (.iconst 0, 1) := by decide +kernel
theorem dX5_soundsOf_33 : decode cX5_soundsOf 33 = .ok (.ireturn, 1) := by decide +kernel
theorem dX5_soundsOfAllKinds_0 : decode cX5_soundsOfAllKinds 0 = .ok (.aload_n 0, 1) := by decide +kernel
theorem dX5_soundsOfAllKinds_1 : decode cX5_soundsOfAllKinds 1 = .ok (.bipush 115, 2) := by decide +kernel
theorem dX5_soundsOfAllKinds_3 : decode cX5_soundsOfAllKinds 3 = .ok (.iload_n 1, 1) := by decide +kernel
theorem dX5_soundsOfAllKinds_4 : decode cX5_soundsOfAllKinds 4 = .ok (.invokevirtual 154, 3) := by decide +kernel
theorem dX5_soundsOfAllKinds_7 : decode cX5_soundsOfAllKinds 7 = .ok (.aload_n 0, 1) := by decide +kernel
theorem dX5_soundsOfAllKinds_8 : decode cX5_soundsOfAllKinds 8 = .ok (.bipush 119, 2) := by decide +kernel
theorem dX5_soundsOfAllKinds_10 : decode cX5_soundsOfAllKinds 10 = .ok (.iload_n 1, 1) := by decide +kernel
theorem dX5_soundsOfAllKinds_11 : decode cX5_soundsOfAllKinds 11 = .ok (.invokevirtual 154, 3) := by decide +kernel
theorem dX5_soundsOfAllKinds_14 : decode cX5_soundsOfAllKinds 14 = .ok (.iadd, 1) := by decide +kernel
theorem dX5_soundsOfAllKinds_15 : decode cX5_soundsOfAllKinds 15 = .ok (.aload_n 0, 1) := by decide +kernel
theorem dX5_soundsOfAllKinds_16 : decode cX5_soundsOfAllKinds 16 = .ok (.bipush 100, 2) := by decide +kernel
theorem dX5_soundsOfAllKinds_18 : decode cX5_soundsOfAllKinds 18 = .ok (.iload_n 1, 1) := by decide +kernel
theorem dX5_soundsOfAllKinds_19 : decode cX5_soundsOfAllKinds 19 = .ok (.invokevirtual 154, 3) := by decide +kernel
theorem dX5_soundsOfAllKinds_22 : decode cX5_soundsOfAllKinds 22 = .ok (.iadd, 1) := by decide +kernel
theorem dX5_soundsOfAllKinds_23 : decode cX5_soundsOfAllKinds 23 = .ok (.ireturn, 1) := by decide +kernel
theorem dX6_init_0 : decode cX6_init 0 = .ok (.aload_n 0, 1) := by decide +kernel
theorem dX6_init_1 : decode cX6_init 1 = .ok (.invokespecial 3, 3) := by decide +kernel
theorem dX6_init_4 : decode cX6_init 4 = .ok (.aload_n 0, 1) := by decide +kernel
theorem dX6_init_5 : decode cX6_init 5 = .ok (.bipush 60, 2) := by decide +kernel
theorem dX6_init_7 : decode cX6_init 7 = .ok (.newarray .char, 2) := by decide +kernel
theorem dX6_init_9 : decode cX6_init 9 = .ok (.putfield 9, 3) := by decide +kernel
theorem dX6_init_12 : decode cX6_init 12 = .ok (.aload_n 0, 1) := by decide +kernel
theorem dX6_init_13 : decode cX6_init 13 = .ok (.iconst 0, 1) := by decide +kernel
theorem dX6_init_14 : decode cX6_init 14 = .ok (.putfield 15, 3) := by decide +kernel
theorem dX6_init_17 : decode cX6_init 17 = .ok (.return_, 1) := by decide +kernel
theorem dX6_clear_0 : decode cX6_clear 0 = .ok (.aload_n 0, 1) := by decide +kernel
theorem dX6_clear_1 : decode cX6_clear 1 = .ok (.iconst 0, 1) := by decide +kernel
theorem dX6_clear_2 : decode cX6_clear 2 = .ok (.putfield 15, 3) := by decide +kernel
theorem dX6_clear_5 : decode cX6_clear 5 = .ok (.return_, 1) := by decide +kernel
theorem dX6_isFull_0 : decode cX6_isFull 0 = .ok (.aload_n 0, 1) := by decide +kernel
theorem dX6_isFull_1 : decode cX6_isFull 1 = .ok (.getfield 15, 3) := by decide +kernel
theorem dX6_isFull_4 : decode cX6_isFull 4 = .ok (.aload_n 0, 1) := by decide +kernel
theorem dX6_isFull_5 : decode cX6_isFull 5 = .ok (.getfield 9, 3) := by decide +kernel
theorem dX6_isFull_8 : decode cX6_isFull 8 = .ok (.arraylength, 1) := by decide +kernel
theorem dX6_isFull_9 : decode cX6_isFull 9 = .ok (.if_icmp .lt 7, 3) := by decide +kernel
theorem dX6_isFull_12 : decode cX6_isFull 12 = .ok (.iconst 1, 1) := by decide +kernel
theorem dX6_isFull_13 : decode cX6_isFull 13 = .ok (.goto 4, 3) := by decide +kernel
theorem dX6_isFull_16 : decode cX6_isFull 16 = .ok (.iconst 0, 1) := by decide +kernel
theorem dX6_isFull_17 : decode cX6_isFull 17 = .ok (.ireturn, 1) := by decide +kernel
theorem dX6_append_0 : decode cX6_append 0 = .ok (.aload_n 0, 1) := by decide +kernel
theorem dX6_append_1 : decode cX6_append 1 = .ok (.getfield 15, 3) := by decide +kernel
theorem dX6_append_4 : decode cX6_append 4 = .ok (.ifCond .lt 35, 3) := by decide +kernel
theorem dX6_append_7 : decode cX6_append 7 = .ok (.aload_n 0, 1) := by decide +kernel
theorem dX6_append_8 : decode cX6_append 8 = .ok (.getfield 15, 3) := by decide +kernel
theorem dX6_append_11 : decode cX6_append 11 = .ok (.aload_n 0, 1) := by decide +kernel
theorem dX6_append_12 : decode cX6_append 12 = .ok (.getfield 9, 3) := by decide +kernel
theorem dX6_append_15 : decode cX6_append 15 = .ok (.arraylength, 1) := by decide +kernel
theorem dX6_append_16 : decode cX6_append 16 = .ok (.if_icmp .ge 23, 3) := by decide +kernel
theorem dX6_append_19 : decode cX6_append 19 = .ok (.aload_n 0, 1) := by decide +kernel
theorem dX6_append_20 : decode cX6_append 20 = .ok (.getfield 9, 3) := by decide +kernel
theorem dX6_append_23 : decode cX6_append 23 = .ok (.aload_n 0, 1) := by decide +kernel
theorem dX6_append_24 : decode cX6_append 24 = .ok (.getfield 15, 3) := by decide +kernel
theorem dX6_append_27 : decode cX6_append 27 = .ok (.iload_n 1, 1) := by decide +kernel
theorem dX6_append_28 : decode cX6_append 28 = .ok (.castore, 1) := by decide +kernel
theorem dX6_append_29 : decode cX6_append 29 = .ok (.aload_n 0, 1) := by decide +kernel
theorem dX6_append_30 : decode cX6_append 30 = .ok (.dup, 1) := by decide +kernel
theorem dX6_append_31 : decode cX6_append 31 = .ok (.getfield 15, 3) := by decide +kernel
theorem dX6_append_34 : decode cX6_append 34 = .ok (.iconst 1, 1) := by decide +kernel
theorem dX6_append_35 : decode cX6_append 35 = .ok (.iadd, 1) := by decide +kernel
theorem dX6_append_36 : decode cX6_append 36 = .ok (.putfield 15, 3) := by decide +kernel
theorem dX6_append_39 : decode cX6_append 39 = .ok (.return_, 1) := by decide +kernel
theorem dX6_has_0 : decode cX6_has 0 = .ok (.iload_n 1, 1) := by decide +kernel
theorem dX6_has_1 : decode cX6_has 1 = .ok (.ifCond .lt 24, 3) := by decide +kernel
theorem dX6_has_4 : decode cX6_has 4 = .ok (.iload_n 1, 1) := by decide +kernel
theorem dX6_has_5 : decode cX6_has 5 = .ok (.aload_n 0, 1) := by decide +kernel
theorem dX6_has_6 : decode cX6_has 6 = .ok (.getfield 15, 3) := by decide +kernel
theorem dX6_has_9 : decode cX6_has 9 = .ok (.if_icmp .ge 16, 3) := by decide +kernel
theorem dX6_has_12 : decode cX6_has 12 = .ok (.iload_n 1, 1) := by decide +kernel
theorem dX6_has_13 : decode cX6_has 13 = .ok (.aload_n 0, 1) := by decide +kernel
theorem dX6_has_14 : decode cX6_has 14 = .ok (.getfield 9, 3) := by decide +kernel
theorem dX6_has_17 : decode cX6_has 17 = .ok (.arraylength, 1) := by decide +kernel
theorem dX6_has_18 : decode cX6_has 18 = .ok (.if_icmp .ge 7, 3) := by decide +kernel
theorem dX6_has_21 : decode cX6_has 21 = .ok (.iconst 1, 1) := by decide +kernel
theorem dX6_has_22 : decode cX6_has 22 = .ok (.goto 4, 3) := by decide +kernel
theorem dX6_has_25 : decode cX6_has 25 = .ok (.iconst 0, 1) := by decide +kernel
theorem dX6_has_26 : decode cX6_has 26 = .ok (.ireturn, 1) := by decide +kernel
theorem dX6_signAt_0 : decode cX6_signAt 0 = .ok (.iload_n 1, 1) := by decide +kernel
theorem dX6_signAt_1 : decode cX6_signAt 1 = .ok (.ifCond .lt 29, 3) := by decide +kernel
theorem dX6_signAt_4 : decode cX6_signAt 4 = .ok (.iload_n 1, 1) := by decide +kernel
theorem dX6_signAt_5 : decode cX6_signAt 5 = .ok (.aload_n 0, 1) := by decide +kernel
theorem dX6_signAt_6 : decode cX6_signAt 6 = .ok (.getfield 15, 3) := by decide +kernel
theorem dX6_signAt_9 : decode cX6_signAt 9 = .ok (.if_icmp .ge 21, 3) := by decide +kernel
theorem dX6_signAt_12 : decode cX6_signAt 12 = .ok (.iload_n 1, 1) := by decide +kernel
theorem dX6_signAt_13 : decode cX6_signAt 13 = .ok (.aload_n 0, 1) := by decide +kernel
theorem dX6_signAt_14 : decode cX6_signAt 14 = .ok (.getfield 9, 3) := by decide +kernel
theorem dX6_signAt_17 : decode cX6_signAt 17 = .ok (.arraylength, 1) := by decide +kernel
theorem dX6_signAt_18 : decode cX6_signAt 18 = .ok (.if_icmp .ge 12, 3) := by decide +kernel
theorem dX6_signAt_21 : decode cX6_signAt 21 = .ok (.aload_n 0, 1) := by decide +kernel
theorem dX6_signAt_22 : decode cX6_signAt 22 = .ok (.getfield 9, 3) := by decide +kernel
theorem dX6_signAt_25 : decode cX6_signAt 25 = .ok (.iload_n 1, 1) := by decide +kernel
theorem dX6_signAt_26 : decode cX6_signAt 26 = .ok (.caload, 1) := by decide +kernel
theorem dX6_signAt_27 : decode cX6_signAt 27 = .ok (.goto 4, 3) := by decide +kernel
theorem dX6_signAt_30 : decode cX6_signAt 30 = .ok (.iconst 0, 1) := by decide +kernel
theorem dX6_signAt_31 : decode cX6_signAt 31 = .ok (.ireturn, 1) := by decide +kernel
theorem dX8_init_0 : decode cX8_init 0 = .ok (.aload_n 0, 1) := by decide +kernel
theorem dX8_init_1 : decode cX8_init 1 = .ok (.invokespecial 3, 3) := by decide +kernel
theorem dX8_init_4 : decode cX8_init 4 = .ok (.aload_n 0, 1) := by decide +kernel
theorem dX8_init_5 : decode cX8_init 5 = .ok (.new 9, 3) := by decide +kernel
theorem dX8_init_8 : decode cX8_init 8 = .ok (.dup, 1) := by decide +kernel
theorem dX8_init_9 : decode cX8_init 9 = .ok (.invokespecial 11, 3) := by decide +kernel
theorem dX8_init_12 : decode cX8_init 12 = .ok (.putfield 12, 3) := by decide +kernel
theorem dX8_init_15 : decode cX8_init 15 = .ok (.aload_n 0, 1) := by decide +kernel
theorem dX8_init_16 : decode cX8_init 16 = .ok (.new 9, 3) := by decide +kernel
theorem dX8_init_19 : decode cX8_init 19 = .ok (.dup, 1) := by decide +kernel
theorem dX8_init_20 : decode cX8_init 20 = .ok (.invokespecial 11, 3) := by decide +kernel
theorem dX8_init_23 : decode cX8_init 23 = .ok (.putfield 16, 3) := by decide +kernel
theorem dX8_init_26 : decode cX8_init 26 = .ok (.aload_n 0, 1) := by decide +kernel
theorem dX8_init_27 : decode cX8_init 27 = .ok (.new 9, 3) := by decide +kernel
theorem dX8_init_30 : decode cX8_init 30 = .ok (.dup, 1) := by decide +kernel
theorem dX8_init_31 : decode cX8_init 31 = .ok (.invokespecial 11, 3) := by decide +kernel
theorem dX8_init_34 : decode cX8_init 34 = .ok (.putfield 19, 3) := by decide +kernel
theorem dX8_init_37 : decode cX8_init 37 = .ok (.aload_n 0, 1) := by decide +kernel
theorem dX8_init_38 : decode cX8_init 38 = .ok (.iconst 0, 1) := by decide +kernel
theorem dX8_init_39 : decode cX8_init 39 = .ok (.putfield 22, 3) := by decide +kernel
theorem dX8_init_42 : decode cX8_init 42 = .ok (.aload_n 0, 1) := by decide +kernel
theorem dX8_init_43 : decode cX8_init 43 = .ok (.new 26, 3) := by decide +kernel
theorem dX8_init_46 : decode cX8_init 46 = .ok (.dup, 1) := by decide +kernel
theorem dX8_init_47 : decode cX8_init 47 = .ok (.invokespecial 28, 3) := by decide +kernel
theorem dX8_init_50 : decode cX8_init 50 = .ok (.putfield 29, 3) := by decide +kernel
theorem dX8_init_53 : decode cX8_init 53 = .ok (.aload_n 0, 1) := by decide +kernel
theorem dX8_init_54 : decode cX8_init 54 = .ok (.new 33, 3) := by decide +kernel
theorem dX8_init_57 : decode cX8_init 57 = .ok (.dup, 1) := by decide +kernel
theorem dX8_init_58 : decode cX8_init 58 = .ok (.invokespecial 35, 3) := by decide +kernel
theorem dX8_init_61 : decode cX8_init 61 = .ok (.putfield 36, 3) := by decide +kernel
theorem dX8_init_64 : decode cX8_init 64 = .ok (.aload_n 0, 1) := by decide +kernel
theorem dX8_init_65 : decode cX8_init 65 = .ok (.new 40, 3) := by decide +kernel
theorem dX8_init_68 : decode cX8_init 68 = .ok (.dup, 1) := by decide +kernel
theorem dX8_init_69 : decode cX8_init 69 = .ok (.invokespecial 42, 3) := by decide +kernel
theorem dX8_init_72 : decode cX8_init 72 = .ok (.putfield 43, 3) := by decide +kernel
theorem dX8_init_75 : decode cX8_init 75 = .ok (.aload_n 0, 1) := by decide +kernel
theorem dX8_init_76 : decode cX8_init 76 = .ok (.new 47, 3) := by decide +kernel
theorem dX8_init_79 : decode cX8_init 79 = .ok (.dup, 1) := by decide +kernel
theorem dX8_init_80 : decode cX8_init 80 = .ok (.invokespecial 49, 3) := by decide +kernel
theorem dX8_init_83 : decode cX8_init 83 = .ok (.putfield 50, 3) := by decide +kernel
theorem dX8_init_86 : decode cX8_init 86 = .ok (.aload_n 0, 1) := by decide +kernel
theorem dX8_init_87 : decode cX8_init 87 = .ok (.iconst (-1), 1) := by decide +kernel
theorem dX8_init_88 : decode cX8_init 88 = .ok (.putfield 54, 3) := by decide +kernel
theorem dX8_init_91 : decode cX8_init 91 = .ok (.aload_n 0, 1) := by decide +kernel
theorem dX8_init_92 : decode cX8_init 92 = .ok (.iconst (-1), 1) := by decide +kernel
theorem dX8_init_93 : decode cX8_init 93 = .ok (.putfield 58, 3) := by decide +kernel
theorem dX8_init_96 : decode cX8_init 96 = .ok (.return_, 1) := by decide +kernel
theorem dX8_addSection_0 : decode cX8_addSection 0 = .ok (.aload_n 0, 1) := by decide +kernel
theorem dX8_addSection_1 : decode cX8_addSection 1 = .ok (.getfield 29, 3) := by decide +kernel
theorem dX8_addSection_4 : decode cX8_addSection 4 = .ok (.aload_n 0, 1) := by decide +kernel
theorem dX8_addSection_5 : decode cX8_addSection 5 = .ok (.getfield 12, 3) := by decide +kernel
theorem dX8_addSection_8 : decode cX8_addSection 8 = .ok (.invokevirtual 61, 3) := by decide +kernel
theorem dX8_addSection_11 : decode cX8_addSection 11 = .ok (.aload_n 0, 1) := by decide +kernel
theorem dX8_addSection_12 : decode cX8_addSection 12 = .ok (.aload_n 0, 1) := by decide +kernel
theorem dX8_addSection_13 : decode cX8_addSection 13 = .ok (.getfield 12, 3) := by decide +kernel
theorem dX8_addSection_16 : decode cX8_addSection 16 = .ok (.iload_n 1, 1) := by decide +kernel
theorem dX8_addSection_17 : decode cX8_addSection 17 = .ok (.iload_n 2, 1) := by decide +kernel
theorem dX8_addSection_18 : decode cX8_addSection 18 = .ok (.iload_n 3, 1) := by decide +kernel
theorem dX8_addSection_19 : decode cX8_addSection 19 = .ok (.invokevirtual 65, 3) := by decide +kernel
theorem dX8_addSection_22 : decode cX8_addSection 22 = .ok (.invokevirtual 69, 3) := by decide +kernel
theorem dX8_addSection_25 : decode cX8_addSection 25 = .ok (.ireturn, 1) := by decide +kernel
theorem dX8_removeSection_0 : decode cX8_removeSection 0 = .ok (.aload_n 0, 1) := by decide +kernel
theorem dX8_removeSection_1 : decode cX8_removeSection 1 = .ok (.getfield 29, 3) := by decide +kernel
theorem dX8_removeSection_4 : decode cX8_removeSection 4 = .ok (.aload_n 0, 1) := by decide +kernel
theorem dX8_removeSection_5 : decode cX8_removeSection 5 = .ok (.getfield 12, 3) := by decide +kernel
theorem dX8_removeSection_8 : decode cX8_removeSection 8 = .ok (.invokevirtual 61, 3) := by decide +kernel
theorem dX8_removeSection_11 : decode cX8_removeSection 11 = .ok (.aload_n 0, 1) := by decide +kernel
theorem dX8_removeSection_12 : decode cX8_removeSection 12 = .ok (.aload_n 0, 1) := by decide +kernel
theorem dX8_removeSection_13 : decode cX8_removeSection 13 = .ok (.getfield 12, 3) := by decide +kernel
theorem dX8_removeSection_16 : decode cX8_removeSection 16 = .ok (.iload_n 1, 1) := by decide +kernel
theorem dX8_removeSection_17 : decode cX8_removeSection 17 = .ok (.invokevirtual 73, 3) := by decide +kernel
theorem dX8_removeSection_20 : decode cX8_removeSection 20 = .ok (.invokevirtual 69, 3) := by decide +kernel
theorem dX8_removeSection_23 : decode cX8_removeSection 23 = .ok (.ireturn, 1) := by decide +kernel
theorem dX8_setNote_0 : decode cX8_setNote 0 = .ok (.aload_n 0, 1) := by decide +kernel
theorem dX8_setNote_1 : decode cX8_setNote 1 = .ok (.getfield 29, 3) := by decide +kernel
theorem dX8_setNote_4 : decode cX8_setNote 4 = .ok (.aload_n 0, 1) := by decide +kernel
theorem dX8_setNote_5 : decode cX8_setNote 5 = .ok (.getfield 12, 3) := by decide +kernel
theorem dX8_setNote_8 : decode cX8_setNote 8 = .ok (.invokevirtual 61, 3) := by decide +kernel
theorem dX8_setNote_11 : decode cX8_setNote 11 = .ok (.aload_n 0, 1) := by decide +kernel
theorem dX8_setNote_12 : decode cX8_setNote 12 = .ok (.aload_n 0, 1) := by decide +kernel
theorem dX8_setNote_13 : decode cX8_setNote 13 = .ok (.getfield 12, 3) := by decide +kernel
theorem dX8_setNote_16 : decode cX8_setNote 16 = .ok (.iload_n 1, 1) := by decide +kernel
theorem dX8_setNote_17 : decode cX8_setNote 17 = .ok (.iload_n 2, 1) := by decide +kernel
theorem dX8_setNote_18 : decode cX8_setNote 18 = .ok (.iload_n 3, 1) := by decide +kernel
theorem dX8_setNote_19 : decode cX8_setNote 19 = .ok (.iload 4, 2) := by decide +kernel
theorem dX8_setNote_21 : decode cX8_setNote 21 = .ok (.invokevirtual 76, 3) := by decide +kernel
theorem dX8_setNote_24 : decode cX8_setNote 24 = .ok (.invokevirtual 69, 3) := by decide +kernel
theorem dX8_setNote_27 : decode cX8_setNote 27 = .ok (.ireturn, 1) := by decide +kernel
theorem dX8_setMasked_0 : decode cX8_setMasked 0 = .ok (.aload_n 0, 1) := by decide +kernel
theorem dX8_setMasked_1 : decode cX8_setMasked 1 = .ok (.getfield 29, 3) := by decide +kernel
theorem dX8_setMasked_4 : decode cX8_setMasked 4 = .ok (.aload_n 0, 1) := by decide +kernel
theorem dX8_setMasked_5 : decode cX8_setMasked 5 = .ok (.getfield 12, 3) := by decide +kernel
theorem dX8_setMasked_8 : decode cX8_setMasked 8 = .ok (.invokevirtual 61, 3) := by decide +kernel
theorem dX8_setMasked_11 : decode cX8_setMasked 11 = .ok (.aload_n 0, 1) := by decide +kernel
theorem dX8_setMasked_12 : decode cX8_setMasked 12 = .ok (.aload_n 0, 1) := by decide +kernel
theorem dX8_setMasked_13 : decode cX8_setMasked 13 = .ok (.getfield 12, 3) := by decide +kernel
theorem dX8_setMasked_16 : decode cX8_setMasked 16 = .ok (.iload_n 1, 1) := by decide +kernel
theorem dX8_setMasked_17 : decode cX8_setMasked 17 = .ok (.iload_n 2, 1) := by decide +kernel
theorem dX8_setMasked_18 : decode cX8_setMasked 18 = .ok (.iload_n 3, 1) := by decide +kernel
theorem dX8_setMasked_19 : decode cX8_setMasked 19 = .ok (.invokevirtual 80, 3) := by decide +kernel
theorem dX8_setMasked_22 : decode cX8_setMasked 22 = .ok (.invokevirtual 69, 3) := by decide +kernel
theorem dX8_setMasked_25 : decode cX8_setMasked 25 = .ok (.ifCond .eq 7, 3) := by decide +kernel
theorem dX8_setMasked_28 : decode cX8_setMasked 28 = .ok (.iconst 1, 1) := by decide +kernel
theorem dX8_setMasked_29 : decode cX8_setMasked 29 = .ok (.goto 4, 3) := by decide +kernel
theorem dX8_setMasked_32 : decode cX8_setMasked 32 = .ok (.iconst 0, 1) := by decide +kernel
theorem dX8_setMasked_33 : decode cX8_setMasked 33 = .ok (.ireturn, 1) := by decide +kernel
theorem dX8_transpose_0 : decode cX8_transpose 0 = .ok (.aload_n 0, 1) := by decide +kernel
theorem dX8_transpose_1 : decode cX8_transpose 1 = .ok (.getfield 29, 3) := by decide +kernel
theorem dX8_transpose_4 : decode cX8_transpose 4 = .ok (.aload_n 0, 1) := by decide +kernel
theorem dX8_transpose_5 : decode cX8_transpose 5 = .ok (.getfield 12, 3) := by decide +kernel
theorem dX8_transpose_8 : decode cX8_transpose 8 = .ok (.invokevirtual 61, 3) := by decide +kernel
theorem dX8_transpose_11 : decode cX8_transpose 11 = .ok (.aload_n 0, 1) := by decide +kernel
theorem dX8_transpose_12 : decode cX8_transpose 12 = .ok (.aload_n 0, 1) := by decide +kernel
theorem dX8_transpose_13 : decode cX8_transpose 13 = .ok (.getfield 12, 3) := by decide +kernel
theorem dX8_transpose_16 : decode cX8_transpose 16 = .ok (.iload_n 1, 1) := by decide +kernel
theorem dX8_transpose_17 : decode cX8_transpose 17 = .ok (.invokevirtual 84, 3) := by decide +kernel
theorem dX8_transpose_20 : decode cX8_transpose 20 = .ok (.invokevirtual 69, 3) := by decide +kernel
theorem dX8_transpose_23 : decode cX8_transpose 23 = .ok (.ireturn, 1) := by decide +kernel
theorem dX8_reverse_0 : decode cX8_reverse 0 = .ok (.aload_n 0, 1) := by decide +kernel
theorem dX8_reverse_1 : decode cX8_reverse 1 = .ok (.getfield 29, 3) := by decide +kernel
theorem dX8_reverse_4 : decode cX8_reverse 4 = .ok (.aload_n 0, 1) := by decide +kernel
theorem dX8_reverse_5 : decode cX8_reverse 5 = .ok (.getfield 12, 3) := by decide +kernel
theorem dX8_reverse_8 : decode cX8_reverse 8 = .ok (.invokevirtual 61, 3) := by decide +kernel
theorem dX8_reverse_11 : decode cX8_reverse 11 = .ok (.aload_n 0, 1) := by decide +kernel
theorem dX8_reverse_12 : decode cX8_reverse 12 = .ok (.aload_n 0, 1) := by decide +kernel
theorem dX8_reverse_13 : decode cX8_reverse 13 = .ok (.getfield 12, 3) := by decide +kernel
theorem dX8_reverse_16 : decode cX8_reverse 16 = .ok (.iload_n 1, 1) := by decide +kernel
theorem dX8_reverse_17 : decode cX8_reverse 17 = .ok (.invokevirtual 87, 3) := by decide +kernel
theorem dX8_reverse_20 : decode cX8_reverse 20 = .ok (.invokevirtual 69, 3) := by decide +kernel
theorem dX8_reverse_23 : decode cX8_reverse 23 = .ok (.ireturn, 1) := by decide +kernel
theorem dX8_raise_0 : decode cX8_raise 0 = .ok (.aload_n 0, 1) := by decide +kernel
theorem dX8_raise_1 : decode cX8_raise 1 = .ok (.getfield 29, 3) := by decide +kernel
theorem dX8_raise_4 : decode cX8_raise 4 = .ok (.aload_n 0, 1) := by decide +kernel
theorem dX8_raise_5 : decode cX8_raise 5 = .ok (.getfield 12, 3) := by decide +kernel
theorem dX8_raise_8 : decode cX8_raise 8 = .ok (.invokevirtual 61, 3) := by decide +kernel
theorem dX8_raise_11 : decode cX8_raise 11 = .ok (.aload_n 0, 1) := by decide +kernel
theorem dX8_raise_12 : decode cX8_raise 12 = .ok (.aload_n 0, 1) := by decide +kernel
theorem dX8_raise_13 : decode cX8_raise 13 = .ok (.getfield 12, 3) := by decide +kernel
theorem dX8_raise_16 : decode cX8_raise 16 = .ok (.iload_n 1, 1) := by decide +kernel
theorem dX8_raise_17 : decode cX8_raise 17 = .ok (.iload_n 2, 1) := by decide +kernel
theorem dX8_raise_18 : decode cX8_raise 18 = .ok (.invokevirtual 90, 3) := by decide +kernel
theorem dX8_raise_21 : decode cX8_raise 21 = .ok (.invokevirtual 69, 3) := by decide +kernel
theorem dX8_raise_24 : decode cX8_raise 24 = .ok (.ireturn, 1) := by decide +kernel
theorem dX8_setTempo_0 : decode cX8_setTempo 0 = .ok (.aload_n 0, 1) := by decide +kernel
theorem dX8_setTempo_1 : decode cX8_setTempo 1 = .ok (.getfield 29, 3) := by decide +kernel
theorem dX8_setTempo_4 : decode cX8_setTempo 4 = .ok (.aload_n 0, 1) := by decide +kernel
theorem dX8_setTempo_5 : decode cX8_setTempo 5 = .ok (.getfield 12, 3) := by decide +kernel
theorem dX8_setTempo_8 : decode cX8_setTempo 8 = .ok (.invokevirtual 61, 3) := by decide +kernel
theorem dX8_setTempo_11 : decode cX8_setTempo 11 = .ok (.aload_n 0, 1) := by decide +kernel
theorem dX8_setTempo_12 : decode cX8_setTempo 12 = .ok (.aload_n 0, 1) := by decide +kernel
theorem dX8_setTempo_13 : decode cX8_setTempo 13 = .ok (.getfield 12, 3) := by decide +kernel
theorem dX8_setTempo_16 : decode cX8_setTempo 16 = .ok (.iload_n 1, 1) := by decide +kernel
theorem dX8_setTempo_17 : decode cX8_setTempo 17 = .ok (.invokevirtual 94, 3) := by decide +kernel
theorem dX8_setTempo_20 : decode cX8_setTempo 20 = .ok (.invokevirtual 69, 3) := by decide +kernel
theorem dX8_setTempo_23 : decode cX8_setTempo 23 = .ok (.ireturn, 1) := by decide +kernel
theorem dX8_setLimit_0 : decode cX8_setLimit 0 = .ok (.aload_n 0, 1) := by decide +kernel
theorem dX8_setLimit_1 : decode cX8_setLimit 1 = .ok (.getfield 29, 3) := by decide +kernel
theorem dX8_setLimit_4 : decode cX8_setLimit 4 = .ok (.aload_n 0, 1) := by decide +kernel
theorem dX8_setLimit_5 : decode cX8_setLimit 5 = .ok (.getfield 12, 3) := by decide +kernel
theorem dX8_setLimit_8 : decode cX8_setLimit 8 = .ok (.invokevirtual 61, 3) := by decide +kernel
theorem dX8_setLimit_11 : decode cX8_setLimit 11 = .ok (.aload_n 0, 1) := by decide +kernel
theorem dX8_setLimit_12 : decode cX8_setLimit 12 = .ok (.aload_n 0, 1) := by decide +kernel
theorem dX8_setLimit_13 : decode cX8_setLimit 13 = .ok (.getfield 12, 3) := by decide +kernel
theorem dX8_setLimit_16 : decode cX8_setLimit 16 = .ok (.iload_n 1, 1) := by decide +kernel
theorem dX8_setLimit_17 : decode cX8_setLimit 17 = .ok (.invokevirtual 97, 3) := by decide +kernel
theorem dX8_setLimit_20 : decode cX8_setLimit 20 = .ok (.invokevirtual 69, 3) := by decide +kernel
theorem dX8_setLimit_23 : decode cX8_setLimit 23 = .ok (.ireturn, 1) := by decide +kernel
theorem dX8_conductWave_0 : decode cX8_conductWave 0 = .ok (.aload_n 0, 1) := by decide +kernel
theorem dX8_conductWave_1 : decode cX8_conductWave 1 = .ok (.getfield 29, 3) := by decide +kernel
theorem dX8_conductWave_4 : decode cX8_conductWave 4 = .ok (.aload_n 0, 1) := by decide +kernel
theorem dX8_conductWave_5 : decode cX8_conductWave 5 = .ok (.getfield 12, 3) := by decide +kernel
theorem dX8_conductWave_8 : decode cX8_conductWave 8 = .ok (.invokevirtual 61, 3) := by decide +kernel
theorem dX8_conductWave_11 : decode cX8_conductWave 11 = .ok (.aload_n 0, 1) := by decide +kernel
theorem dX8_conductWave_12 : decode cX8_conductWave 12 = .ok (.aload_n 0, 1) := by decide +kernel
theorem dX8_conductWave_13 : decode cX8_conductWave 13 = .ok (.getfield 12, 3) := by decide +kernel
theorem dX8_conductWave_16 : decode cX8_conductWave 16 = .ok (.aload_n 0, 1) := by decide +kernel
theorem dX8_conductWave_17 : decode cX8_conductWave 17 = .ok (.getfield 12, 3) := by decide +kernel
theorem dX8_conductWave_20 : decode cX8_conductWave 20 = .ok (.getfield 100, 3) := by decide +kernel
theorem dX8_conductWave_23 : decode cX8_conductWave 23 = .ok (.invokevirtual 103, 3) := by decide +kernel
theorem dX8_conductWave_26 : decode cX8_conductWave 26 = .ok (.invokevirtual 69, 3) := by decide +kernel
theorem dX8_conductWave_29 : decode cX8_conductWave 29 = .ok (.ireturn, 1) := by decide +kernel
theorem dX8_conductBeats_0 : decode cX8_conductBeats 0 = .ok (.aload_n 0, 1) := by decide +kernel
theorem dX8_conductBeats_1 : decode cX8_conductBeats 1 = .ok (.getfield 29, 3) := by decide +kernel
theorem dX8_conductBeats_4 : decode cX8_conductBeats 4 = .ok (.aload_n 0, 1) := by decide +kernel
theorem dX8_conductBeats_5 : decode cX8_conductBeats 5 = .ok (.getfield 12, 3) := by decide +kernel
theorem dX8_conductBeats_8 : decode cX8_conductBeats 8 = .ok (.invokevirtual 61, 3) := by decide +kernel
theorem dX8_conductBeats_11 : decode cX8_conductBeats 11 = .ok (.aload_n 0, 1) := by decide +kernel
theorem dX8_conductBeats_12 : decode cX8_conductBeats 12 = .ok (.iload_n 1, 1) := by decide +kernel
theorem dX8_conductBeats_13 : decode cX8_conductBeats 13 = .ok (.invokestatic 106, 3) := by decide +kernel
theorem dX8_conductBeats_16 : decode cX8_conductBeats 16 = .ok (.ifCond .eq 14, 3) := by decide +kernel
theorem dX8_conductBeats_19 : decode cX8_conductBeats 19 = .ok (.aload_n 0, 1) := by decide +kernel
theorem dX8_conductBeats_20 : decode cX8_conductBeats 20 = .ok (.getfield 12, 3) := by decide +kernel
theorem dX8_conductBeats_23 : decode cX8_conductBeats 23 = .ok (.iload_n 1, 1) := by decide +kernel
theorem dX8_conductBeats_24 : decode cX8_conductBeats 24 = .ok (.invokevirtual 103, 3) := by decide +kernel
theorem dX8_conductBeats_27 : decode cX8_conductBeats 27 = .ok (.goto 5, 3) := by decide +kernel
theorem dX8_conductBeats_30 : decode cX8_conductBeats 30 = .ok (.bipush (-2), 2) := by decide +kernel
theorem dX8_conductBeats_32 : decode cX8_conductBeats 32 = .ok (.invokevirtual 69, 3) := by decide +kernel
theorem dX8_conductBeats_35 : decode cX8_conductBeats 35 = .ok (.ireturn, 1) := by decide +kernel
theorem dX8_beatCount_0 : decode cX8_beatCount 0 = .ok (.aload_n 0, 1) := by decide +kernel
theorem dX8_beatCount_1 : decode cX8_beatCount 1 = .ok (.getfield 12, 3) := by decide +kernel
theorem dX8_beatCount_4 : decode cX8_beatCount 4 = .ok (.getfield 110, 3) := by decide +kernel
theorem dX8_beatCount_7 : decode cX8_beatCount 7 = .ok (.ireturn, 1) := by decide +kernel
theorem dX8_sectionCount_0 : decode cX8_sectionCount 0 = .ok (.aload_n 0, 1) := by decide +kernel
theorem dX8_sectionCount_1 : decode cX8_sectionCount 1 = .ok (.getfield 12, 3) := by decide +kernel
theorem dX8_sectionCount_4 : decode cX8_sectionCount 4 = .ok (.getfield 113, 3) := by decide +kernel
theorem dX8_sectionCount_7 : decode cX8_sectionCount 7 = .ok (.ireturn, 1) := by decide +kernel
theorem dX8_tempo_0 : decode cX8_tempo 0 = .ok (.aload_n 0, 1) := by decide +kernel
theorem dX8_tempo_1 : decode cX8_tempo 1 = .ok (.getfield 12, 3) := by decide +kernel
theorem dX8_tempo_4 : decode cX8_tempo 4 = .ok (.getfield 100, 3) := by decide +kernel
theorem dX8_tempo_7 : decode cX8_tempo 7 = .ok (.ireturn, 1) := by decide +kernel
theorem dX8_limit_0 : decode cX8_limit 0 = .ok (.aload_n 0, 1) := by decide +kernel
theorem dX8_limit_1 : decode cX8_limit 1 = .ok (.getfield 12, 3) := by decide +kernel
theorem dX8_limit_4 : decode cX8_limit 4 = .ok (.getfield 116, 3) := by decide +kernel
theorem dX8_limit_7 : decode cX8_limit 7 = .ok (.ireturn, 1) := by decide +kernel
theorem dX8_kind_0 : decode cX8_kind 0 = .ok (.aload_n 0, 1) := by decide +kernel
theorem dX8_kind_1 : decode cX8_kind 1 = .ok (.iload_n 1, 1) := by decide +kernel
theorem dX8_kind_2 : decode cX8_kind 2 = .ok (.invokevirtual 119, 3) := by decide +kernel
theorem dX8_kind_5 : decode cX8_kind 5 = .ok (.getfield 123, 3) := by decide +kernel
theorem dX8_kind_8 : decode cX8_kind 8 = .ok (.ireturn, 1) := by decide +kernel
theorem dX8_rows_0 : decode cX8_rows 0 = .ok (.aload_n 0, 1) := by decide +kernel
theorem dX8_rows_1 : decode cX8_rows 1 = .ok (.iload_n 1, 1) := by decide +kernel
theorem dX8_rows_2 : decode cX8_rows 2 = .ok (.invokevirtual 119, 3) := by decide +kernel
theorem dX8_rows_5 : decode cX8_rows 5 = .ok (.getfield 127, 3) := by decide +kernel
theorem dX8_rows_8 : decode cX8_rows 8 = .ok (.ireturn, 1) := by decide +kernel
theorem dX8_columns_0 : decode cX8_columns 0 = .ok (.aload_n 0, 1) := by decide +kernel
theorem dX8_columns_1 : decode cX8_columns 1 = .ok (.iload_n 1, 1) := by decide +kernel
theorem dX8_columns_2 : decode cX8_columns 2 = .ok (.invokevirtual 119, 3) := by decide +kernel
theorem dX8_columns_5 : decode cX8_columns 5 = .ok (.getfield 130, 3) := by decide +kernel
theorem dX8_columns_8 : decode cX8_columns 8 = .ok (.ireturn, 1) := by decide +kernel
theorem dX8_note_0 : decode cX8_note 0 = .ok (.aload_n 0, 1) := by decide +kernel
theorem dX8_note_1 : decode cX8_note 1 = .ok (.iload_n 1, 1) := by decide +kernel
theorem dX8_note_2 : decode cX8_note 2 = .ok (.invokevirtual 119, 3) := by decide +kernel
theorem dX8_note_5 : decode cX8_note 5 = .ok (.astore 4, 2) := by decide +kernel
theorem dX8_note_7 : decode cX8_note 7 = .ok (.aload 4, 2) := by decide +kernel
theorem dX8_note_9 : decode cX8_note 9 = .ok (.iload_n 2, 1) := by decide +kernel
theorem dX8_note_10 : decode cX8_note 10 = .ok (.iload_n 3, 1) := by decide +kernel
theorem dX8_note_11 : decode cX8_note 11 = .ok (.invokevirtual 133, 3) := by decide +kernel
theorem dX8_note_14 : decode cX8_note 14 = .ok (.ifCond .ne 13, 3) := by decide +kernel
theorem dX8_note_17 : decode cX8_note 17 = .ok (.new 137, 3) := by decide +kernel
theorem dX8_note_20 : decode cX8_note 20 = .ok (.dup, 1) := by decide +kernel
theorem dX8_note_21 : decode cX8_note 21 = .ok (.ldc 139, 2) := by decide +kernel
theorem dX8_note_23 : decode cX8_note 23 = .ok (.invokespecial 141, 3) := by decide +kernel
theorem dX8_note_26 : decode cX8_note 26 = .ok (.athrow, 1) := by decide +kernel
theorem dX8_note_27 : decode cX8_note 27 = .ok (.aload 4, 2) := by decide +kernel
theorem dX8_note_29 : decode cX8_note 29 = .ok (.iload_n 2, 1) := by decide +kernel
theorem dX8_note_30 : decode cX8_note 30 = .ok (.iload_n 3, 1) := by decide +kernel
theorem dX8_note_31 : decode cX8_note 31 = .ok (.invokevirtual 144, 3) := by decide +kernel
theorem dX8_note_34 : decode cX8_note 34 = .ok (.ireturn, 1) := by decide +kernel
theorem dX8_isMasked_0 : decode cX8_isMasked 0 = .ok (.aload_n 0, 1) := by decide +kernel
theorem dX8_isMasked_1 : decode cX8_isMasked 1 = .ok (.iload_n 1, 1) := by decide +kernel
theorem dX8_isMasked_2 : decode cX8_isMasked 2 = .ok (.invokevirtual 119, 3) := by decide +kernel
theorem dX8_isMasked_5 : decode cX8_isMasked 5 = .ok (.astore_n 3, 1) := by decide +kernel
theorem dX8_isMasked_6 : decode cX8_isMasked 6 = .ok (.iload_n 2, 1) := by decide +kernel
theorem dX8_isMasked_7 : decode cX8_isMasked 7 = .ok (.invokestatic 147, 3) := by decide +kernel
theorem dX8_isMasked_10 : decode cX8_isMasked 10 = .ok (.ifCond .ne 13, 3) := by decide +kernel
theorem dX8_isMasked_13 : decode cX8_isMasked 13 = .ok (.new 150, 3) := by decide +kernel
theorem dX8_isMasked_16 : decode cX8_isMasked 16 = .ok (.dup, 1) := by decide +kernel
theorem dX8_isMasked_17 : decode cX8_isMasked 17 = .ok (.ldc 152, 2) := by decide +kernel
theorem dX8_isMasked_19 : decode cX8_isMasked 19 = .ok (.invokespecial 154, 3) := by decide +kernel
theorem dX8_isMasked_22 : decode cX8_isMasked 22 = .ok (.athrow, 1) := by decide +kernel
theorem dX8_isMasked_23 : decode cX8_isMasked 23 = .ok (.aload_n 3, 1) := by decide +kernel
theorem dX8_isMasked_24 : decode cX8_isMasked 24 = .ok (.iload_n 2, 1) := by decide +kernel
theorem dX8_isMasked_25 : decode cX8_isMasked 25 = .ok (.invokevirtual 155, 3) := by decide +kernel
theorem dX8_isMasked_28 : decode cX8_isMasked 28 = .ok (.ireturn, 1) := by decide +kernel
theorem dX8_fatigue_0 : decode cX8_fatigue 0 = .ok (.aload_n 0, 1) := by decide +kernel
theorem dX8_fatigue_1 : decode cX8_fatigue 1 = .ok (.iload_n 1, 1) := by decide +kernel
theorem dX8_fatigue_2 : decode cX8_fatigue 2 = .ok (.invokevirtual 119, 3) := by decide +kernel
theorem dX8_fatigue_5 : decode cX8_fatigue 5 = .ok (.getfield 158, 3) := by decide +kernel
theorem dX8_fatigue_8 : decode cX8_fatigue 8 = .ok (.ireturn, 1) := by decide +kernel
theorem dX8_restingBeats_0 : decode cX8_restingBeats 0 = .ok (.aload_n 0, 1) := by decide +kernel
theorem dX8_restingBeats_1 : decode cX8_restingBeats 1 = .ok (.iload_n 1, 1) := by decide +kernel
theorem dX8_restingBeats_2 : decode cX8_restingBeats 2 = .ok (.invokevirtual 119, 3) := by decide +kernel
theorem dX8_restingBeats_5 : decode cX8_restingBeats 5 = .ok (.getfield 161, 3) := by decide +kernel
theorem dX8_restingBeats_8 : decode cX8_restingBeats 8 = .ok (.ireturn, 1) := by decide +kernel
theorem dX8_isSymmetric_0 : decode cX8_isSymmetric 0 = .ok (.aload_n 0, 1) := by decide +kernel
theorem dX8_isSymmetric_1 : decode cX8_isSymmetric 1 = .ok (.iload_n 1, 1) := by decide +kernel
theorem dX8_isSymmetric_2 : decode cX8_isSymmetric 2 = .ok (.invokevirtual 119, 3) := by decide +kernel
theorem dX8_isSymmetric_5 : decode cX8_isSymmetric 5 = .ok (.astore_n 2, 1) := by decide +kernel
theorem dX8_isSymmetric_6 : decode cX8_isSymmetric 6 = .ok (.aload_n 0, 1) := by decide +kernel
theorem dX8_isSymmetric_7 : decode cX8_isSymmetric 7 = .ok (.getfield 36, 3) := by decide +kernel
theorem dX8_isSymmetric_10 : decode cX8_isSymmetric 10 = .ok (.aload_n 2, 1) := by decide +kernel
theorem dX8_isSymmetric_11 : decode cX8_isSymmetric 11 = .ok (.invokevirtual 164, 3) := by decide +kernel
theorem dX8_isSymmetric_14 : decode cX8_isSymmetric 14 = .ok (.aload_n 0, 1) := by decide +kernel
theorem dX8_isSymmetric_15 : decode cX8_isSymmetric 15 = .ok (.getfield 36, 3) := by decide +kernel
theorem dX8_isSymmetric_18 : decode cX8_isSymmetric 18 = .ok (.invokevirtual 168, 3) := by decide +kernel
theorem dX8_isSymmetric_21 : decode cX8_isSymmetric 21 = .ok (.aload_n 0, 1) := by decide +kernel
theorem dX8_isSymmetric_22 : decode cX8_isSymmetric 22 = .ok (.getfield 36, 3) := by decide +kernel
theorem dX8_isSymmetric_25 : decode cX8_isSymmetric 25 = .ok (.aload_n 2, 1) := by decide +kernel
theorem dX8_isSymmetric_26 : decode cX8_isSymmetric 26 = .ok (.invokevirtual 170, 3) := by decide +kernel
theorem dX8_isSymmetric_29 : decode cX8_isSymmetric 29 = .ok (.ireturn, 1) := by decide +kernel
theorem dX8_areAlike_0 : decode cX8_areAlike 0 = .ok (.aload_n 0, 1) := by decide +kernel
theorem dX8_areAlike_1 : decode cX8_areAlike 1 = .ok (.iload_n 1, 1) := by decide +kernel
theorem dX8_areAlike_2 : decode cX8_areAlike 2 = .ok (.invokevirtual 119, 3) := by decide +kernel
theorem dX8_areAlike_5 : decode cX8_areAlike 5 = .ok (.aload_n 0, 1) := by decide +kernel
theorem dX8_areAlike_6 : decode cX8_areAlike 6 = .ok (.iload_n 2, 1) := by decide +kernel
theorem dX8_areAlike_7 : decode cX8_areAlike 7 = .ok (.invokevirtual 119, 3) := by decide +kernel
theorem dX8_areAlike_10 : decode cX8_areAlike 10 = .ok (.invokevirtual 170, 3) := by decide +kernel
theorem dX8_areAlike_13 : decode cX8_areAlike 13 = .ok (.ireturn, 1) := by decide +kernel
theorem dX8_noteVolume_0 : decode cX8_noteVolume 0 = .ok (.iload_n 1, 1) := by decide +kernel
theorem dX8_noteVolume_1 : decode cX8_noteVolume 1 = .ok (.invokestatic 174, 3) := by decide +kernel
theorem dX8_noteVolume_4 : decode cX8_noteVolume 4 = .ok (.ifCond .lt 13, 3) := by decide +kernel
theorem dX8_noteVolume_7 : decode cX8_noteVolume 7 = .ok (.iload_n 2, 1) := by decide +kernel
theorem dX8_noteVolume_8 : decode cX8_noteVolume 8 = .ok (.ifCond .lt 9, 3) := by decide +kernel
theorem dX8_noteVolume_11 : decode cX8_noteVolume 11 = .ok (.iload_n 2, 1) := by decide +kernel
theorem dX8_noteVolume_12 : decode cX8_noteVolume 12 = .ok (.bipush 9, 2) := by decide +kernel
theorem dX8_noteVolume_14 : decode cX8_noteVolume 14 = .ok (.if_icmp .le 13, 3) := by decide +kernel
theorem dX8_noteVolume_17 : decode cX8_noteVolume 17 = .ok (.new 150, 3) := by decide +kernel
theorem dX8_noteVolume_20 : decode cX8_noteVolume 20 = .ok (.dup, 1) := by decide +kernel
theorem dX8_noteVolume_21 : decode cX8_noteVolume 21 = .ok (.ldc 178, 2) := by decide +kernel
theorem dX8_noteVolume_23 : decode cX8_noteVolume 23 = .ok (.invokespecial 154, 3) := by decide +kernel
theorem dX8_noteVolume_26 : decode cX8_noteVolume 26 = .ok (.athrow, 1) := by decide +kernel
theorem dX8_noteVolume_27 : decode cX8_noteVolume 27 = .ok (.iload_n 1, 1) := by decide +kernel
theorem dX8_noteVolume_28 : decode cX8_noteVolume 28 = .ok (.iload_n 2, 1) := by decide +kernel
theorem dX8_noteVolume_29 : decode cX8_noteVolume 29 = .ok (.invokestatic 180, 3) := by decide +kernel
theorem dX8_noteVolume_32 : decode cX8_noteVolume 32 = .ok (.ireturn, 1) := by decide +kernel
theorem dX8_columnVolume_0 : decode cX8_columnVolume 0 = .ok (.aload_n 0, 1) := by decide +kernel
theorem dX8_columnVolume_1 : decode cX8_columnVolume 1 = .ok (.iload_n 1, 1) := by decide +kernel
theorem dX8_columnVolume_2 : decode cX8_columnVolume 2 = .ok (.iload_n 2, 1) := by decide +kernel
theorem dX8_columnVolume_3 : decode cX8_columnVolume 3 = .ok (.invokevirtual 184, 3) := by decide +kernel
theorem dX8_columnVolume_6 : decode cX8_columnVolume 6 = .ok (.iload_n 2, 1) := by decide +kernel
theorem dX8_columnVolume_7 : decode cX8_columnVolume 7 = .ok (.invokevirtual 188, 3) := by decide +kernel
theorem dX8_columnVolume_10 : decode cX8_columnVolume 10 = .ok (.ireturn, 1) := by decide +kernel
theorem dX8_columnVolumeByTransposing_0 : decode cX8_columnVolumeByTransposing 0 = .ok (.aload_n 0, 1) := by decide +kernel
theorem dX8_columnVolumeByTransposing_1 : decode cX8_columnVolumeByTransposing 1 = .ok (.getfield 36, 3) := by decide +kernel
theorem dX8_columnVolumeByTransposing_4 : decode cX8_columnVolumeByTransposing 4 = .ok (.aload_n 0, 1) := by decide +kernel
theorem dX8_columnVolumeByTransposing_5 : decode cX8_columnVolumeByTransposing 5 = .ok (.iload_n 1, 1) := by decide +kernel
theorem dX8_columnVolumeByTransposing_6 : decode cX8_columnVolumeByTransposing 6 = .ok (.iload_n 2, 1) := by decide +kernel
theorem dX8_columnVolumeByTransposing_7 : decode cX8_columnVolumeByTransposing 7 = .ok (.invokevirtual 184, 3) := by decide +kernel
theorem dX8_columnVolumeByTransposing_10 : decode cX8_columnVolumeByTransposing 10 = .ok (.invokevirtual 164, 3) := by decide +kernel
theorem dX8_columnVolumeByTransposing_13 : decode cX8_columnVolumeByTransposing 13 = .ok (.aload_n 0, 1) := by decide +kernel
theorem dX8_columnVolumeByTransposing_14 : decode cX8_columnVolumeByTransposing 14 = .ok (.getfield 36, 3) := by decide +kernel
theorem dX8_columnVolumeByTransposing_17 : decode cX8_columnVolumeByTransposing 17 = .ok (.invokevirtual 168, 3) := by decide +kernel
theorem dX8_columnVolumeByTransposing_20 : decode cX8_columnVolumeByTransposing 20 = .ok (.aload_n 0, 1) := by decide +kernel
theorem dX8_columnVolumeByTransposing_21 : decode cX8_columnVolumeByTransposing 21 = .ok (.getfield 36, 3) := by decide +kernel
theorem dX8_columnVolumeByTransposing_24 : decode cX8_columnVolumeByTransposing 24 = .ok (.iload_n 2, 1) := by decide +kernel
theorem dX8_columnVolumeByTransposing_25 : decode cX8_columnVolumeByTransposing 25 = .ok (.invokevirtual 191, 3) := by decide +kernel
theorem dX8_columnVolumeByTransposing_28 : decode cX8_columnVolumeByTransposing 28 = .ok (.ireturn, 1) := by decide +kernel
theorem dX8_nextVolume_0 : decode cX8_nextVolume 0 = .ok (.aload_n 0, 1) := by decide +kernel
theorem dX8_nextVolume_1 : decode cX8_nextVolume 1 = .ok (.iload_n 1, 1) := by decide +kernel
theorem dX8_nextVolume_2 : decode cX8_nextVolume 2 = .ok (.invokevirtual 119, 3) := by decide +kernel
theorem dX8_nextVolume_5 : decode cX8_nextVolume 5 = .ok (.aload_n 0, 1) := by decide +kernel
theorem dX8_nextVolume_6 : decode cX8_nextVolume 6 = .ok (.getfield 12, 3) := by decide +kernel
theorem dX8_nextVolume_9 : decode cX8_nextVolume 9 = .ok (.getfield 110, 3) := by decide +kernel
theorem dX8_nextVolume_12 : decode cX8_nextVolume 12 = .ok (.invokevirtual 194, 3) := by decide +kernel
theorem dX8_nextVolume_15 : decode cX8_nextVolume 15 = .ok (.ireturn, 1) := by decide +kernel
theorem dX8_nextTotal_0 : decode cX8_nextTotal 0 = .ok (.iconst 0, 1) := by decide +kernel
theorem dX8_nextTotal_1 : decode cX8_nextTotal 1 = .ok (.istore_n 1, 1) := by decide +kernel
theorem dX8_nextTotal_2 : decode cX8_nextTotal 2 = .ok (.iconst 0, 1) := by decide +kernel
theorem dX8_nextTotal_3 : decode cX8_nextTotal 3 = .ok (.istore_n 2, 1) := by decide +kernel
theorem dX8_nextTotal_4 : decode cX8_nextTotal 4 = .ok (.iload_n 2, 1) := by decide +kernel
theorem dX8_nextTotal_5 : decode cX8_nextTotal 5 = .ok (.aload_n 0, 1) := by decide +kernel
theorem dX8_nextTotal_6 : decode cX8_nextTotal 6 = .ok (.getfield 12, 3) := by decide +kernel
theorem dX8_nextTotal_9 : decode cX8_nextTotal 9 = .ok (.getfield 113, 3) := by decide +kernel
theorem dX8_nextTotal_12 : decode cX8_nextTotal 12 = .ok (.if_icmp .ge 17, 3) := by decide +kernel
theorem dX8_nextTotal_15 : decode cX8_nextTotal 15 = .ok (.iload_n 1, 1) := by decide +kernel
theorem dX8_nextTotal_16 : decode cX8_nextTotal 16 = .ok (.aload_n 0, 1) := by decide +kernel
theorem dX8_nextTotal_17 : decode cX8_nextTotal 17 = .ok (.iload_n 2, 1) := by decide +kernel
theorem dX8_nextTotal_18 : decode cX8_nextTotal 18 = .ok (.invokevirtual 197, 3) := by decide +kernel
theorem dX8_nextTotal_21 : decode cX8_nextTotal 21 = .ok (.iadd, 1) := by decide +kernel
theorem dX8_nextTotal_22 : decode cX8_nextTotal 22 = .ok (.istore_n 1, 1) := by decide +kernel
theorem dX8_nextTotal_23 : decode cX8_nextTotal 23 = .ok (.iinc 2 1, 3) := by decide +kernel
theorem dX8_nextTotal_26 : decode cX8_nextTotal 26 = .ok (.goto (-22), 3) := by decide +kernel
theorem dX8_nextTotal_29 : decode cX8_nextTotal 29 = .ok (.iload_n 1, 1) := by decide +kernel
theorem dX8_nextTotal_30 : decode cX8_nextTotal 30 = .ok (.ireturn, 1) := by decide +kernel
theorem dX8_period_0 : decode cX8_period 0 = .ok (.iconst 1, 1) := by decide +kernel
theorem dX8_period_1 : decode cX8_period 1 = .ok (.istore_n 1, 1) := by decide +kernel
theorem dX8_period_2 : decode cX8_period 2 = .ok (.iconst 0, 1) := by decide +kernel
theorem dX8_period_3 : decode cX8_period 3 = .ok (.istore_n 2, 1) := by decide +kernel
theorem dX8_period_4 : decode cX8_period 4 = .ok (.iload_n 2, 1) := by decide +kernel
theorem dX8_period_5 : decode cX8_period 5 = .ok (.aload_n 0, 1) := by decide +kernel
theorem dX8_period_6 : decode cX8_period 6 = .ok (.getfield 12, 3) := by decide +kernel
theorem dX8_period_9 : decode cX8_period 9 = .ok (.getfield 113, 3) := by decide +kernel
theorem dX8_period_12 : decode cX8_period 12 = .ok (.if_icmp .ge 19, 3) := by decide +kernel
theorem dX8_period_15 : decode cX8_period 15 = .ok (.iload_n 1, 1) := by decide +kernel
theorem dX8_period_16 : decode cX8_period 16 = .ok (.aload_n 0, 1) := by decide +kernel
theorem dX8_period_17 : decode cX8_period 17 = .ok (.iload_n 2, 1) := by decide +kernel
theorem dX8_period_18 : decode cX8_period 18 = .ok (.invokevirtual 200, 3) := by decide +kernel
theorem dX8_period_21 : decode cX8_period 21 = .ok (.invokestatic 202, 3) := by decide +kernel
theorem dX8_period_24 : decode cX8_period 24 = .ok (.istore_n 1, 1) := by decide +kernel
theorem dX8_period_25 : decode cX8_period 25 = .ok (.iinc 2 1, 3) := by decide +kernel
theorem dX8_period_28 : decode cX8_period 28 = .ok (.goto (-24), 3) := by decide +kernel
theorem dX8_period_31 : decode cX8_period 31 = .ok (.iload_n 1, 1) := by decide +kernel
theorem dX8_period_32 : decode cX8_period 32 = .ok (.ireturn, 1) := by decide +kernel
theorem dX8_periodBySearch_0 : decode cX8_periodBySearch 0 = .ok (.iconst 1, 1) := by decide +kernel
theorem dX8_periodBySearch_1 : decode cX8_periodBySearch 1 = .ok (.istore_n 1, 1) := by decide +kernel
theorem dX8_periodBySearch_2 : decode cX8_periodBySearch 2 = .ok (.iload_n 1, 1) := by decide +kernel
theorem dX8_periodBySearch_3 : decode cX8_periodBySearch 3 = .ok (.bipush 60, 2) := by decide +kernel
theorem dX8_periodBySearch_5 : decode cX8_periodBySearch 5 = .ok (.if_icmp .ge 19, 3) := by decide +kernel
theorem dX8_periodBySearch_8 : decode cX8_periodBySearch 8 = .ok (.aload_n 0, 1) := by decide +kernel
theorem dX8_periodBySearch_9 : decode cX8_periodBySearch 9 = .ok (.iload_n 1, 1) := by decide +kernel
theorem dX8_periodBySearch_10 : decode cX8_periodBySearch 10 = .ok (.invokevirtual 205, 3) := by decide +kernel
theorem dX8_periodBySearch_13 : decode cX8_periodBySearch 13 = .ok (.ifCond .eq 5, 3) := by decide +kernel
theorem dX8_periodBySearch_16 : decode cX8_periodBySearch 16 = .ok (.iload_n 1, 1) := by decide +kernel
theorem dX8_periodBySearch_17 : decode cX8_periodBySearch 17 = .ok (.ireturn, 1) := by decide +kernel
theorem dX8_periodBySearch_18 : decode cX8_periodBySearch 18 = .ok (.iinc 1 1, 3) := by decide +kernel
theorem dX8_periodBySearch_21 : decode cX8_periodBySearch 21 = .ok (.goto (-19), 3) := by decide +kernel
theorem dX8_periodBySearch_24 : decode cX8_periodBySearch 24 = .ok (.bipush 60, 2) := by decide +kernel
theorem dX8_periodBySearch_26 : decode cX8_periodBySearch 26 = .ok (.ireturn, 1) := by decide +kernel
theorem dX8_beatsUntilBreak_0 : decode cX8_beatsUntilBreak 0 = .ok (.aload_n 0, 1) := by decide +kernel
theorem dX8_beatsUntilBreak_1 : decode cX8_beatsUntilBreak 1 = .ok (.getfield 16, 3) := by decide +kernel
theorem dX8_beatsUntilBreak_4 : decode cX8_beatsUntilBreak 4 = .ok (.aload_n 0, 1) := by decide +kernel
theorem dX8_beatsUntilBreak_5 : decode cX8_beatsUntilBreak 5 = .ok (.getfield 12, 3) := by decide +kernel
theorem dX8_beatsUntilBreak_8 : decode cX8_beatsUntilBreak 8 = .ok (.invokevirtual 208, 3) := by decide +kernel
theorem dX8_beatsUntilBreak_11 : decode cX8_beatsUntilBreak 11 = .ok (.iconst 1, 1) := by decide +kernel
theorem dX8_beatsUntilBreak_12 : decode cX8_beatsUntilBreak 12 = .ok (.istore_n 1, 1) := by decide +kernel
theorem dX8_beatsUntilBreak_13 : decode cX8_beatsUntilBreak 13 = .ok (.iload_n 1, 1) := by decide +kernel
theorem dX8_beatsUntilBreak_14 : decode cX8_beatsUntilBreak 14 = .ok (.bipush 60, 2) := by decide +kernel
theorem dX8_beatsUntilBreak_16 : decode cX8_beatsUntilBreak 16 = .ok (.if_icmp .gt 28, 3) := by decide +kernel
theorem dX8_beatsUntilBreak_19 : decode cX8_beatsUntilBreak 19 = .ok (.aload_n 0, 1) := by decide +kernel
theorem dX8_beatsUntilBreak_20 : decode cX8_beatsUntilBreak 20 = .ok (.getfield 16, 3) := by decide +kernel
theorem dX8_beatsUntilBreak_23 : decode cX8_beatsUntilBreak 23 = .ok (.invokevirtual 210, 3) := by decide +kernel
theorem dX8_beatsUntilBreak_26 : decode cX8_beatsUntilBreak 26 = .ok (.aload_n 0, 1) := by decide +kernel
theorem dX8_beatsUntilBreak_27 : decode cX8_beatsUntilBreak 27 = .ok (.getfield 16, 3) := by decide +kernel
theorem dX8_beatsUntilBreak_30 : decode cX8_beatsUntilBreak 30 = .ok (.getfield 116, 3) := by decide +kernel
theorem dX8_beatsUntilBreak_33 : decode cX8_beatsUntilBreak 33 = .ok (.if_icmp .le 5, 3) := by decide +kernel
theorem dX8_beatsUntilBreak_36 : decode cX8_beatsUntilBreak 36 = .ok (.iload_n 1, 1) := by decide +kernel
theorem dX8_beatsUntilBreak_37 : decode cX8_beatsUntilBreak 37 = .ok (.ireturn, 1) := by decide +kernel
theorem dX8_beatsUntilBreak_38 : decode cX8_beatsUntilBreak 38 = .ok (.iinc 1 1, 3) := by decide +kernel
theorem dX8_beatsUntilBreak_41 : decode cX8_beatsUntilBreak 41 = .ok (.goto (-28), 3) := by decide +kernel
theorem dX8_beatsUntilBreak_44 : decode cX8_beatsUntilBreak 44 = .ok (.new 214, 3) := by decide +kernel
theorem dX8_beatsUntilBreak_47 : decode cX8_beatsUntilBreak 47 = .ok (.dup, 1) := by decide +kernel
theorem dX8_beatsUntilBreak_48 : decode cX8_beatsUntilBreak 48 = .ok (.ldc 216, 2) := by decide +kernel
theorem dX8_beatsUntilBreak_50 : decode cX8_beatsUntilBreak 50 = .ok (.invokespecial 218, 3) := by decide +kernel
theorem dX8_beatsUntilBreak_53 : decode cX8_beatsUntilBreak 53 = .ok (.athrow, 1) := by decide +kernel
theorem dX8_totalWithin_0 : decode cX8_totalWithin 0 = .ok (.iload_n 1, 1) := by decide +kernel
theorem dX8_totalWithin_1 : decode cX8_totalWithin 1 = .ok (.ifCond .lt 9, 3) := by decide +kernel
theorem dX8_totalWithin_4 : decode cX8_totalWithin 4 = .ok (.iload_n 1, 1) := by decide +kernel
theorem dX8_totalWithin_5 : decode cX8_totalWithin 5 = .ok (.bipush 60, 2) := by decide +kernel
theorem dX8_totalWithin_7 : decode cX8_totalWithin 7 = .ok (.if_icmp .le 13, 3) := by decide +kernel
theorem dX8_totalWithin_10 : decode cX8_totalWithin 10 = .ok (.new 150, 3) := by decide +kernel
theorem dX8_totalWithin_13 : decode cX8_totalWithin 13 = .ok (.dup, 1) := by decide +kernel
theorem dX8_totalWithin_14 : decode cX8_totalWithin 14 = .ok (.ldc 219, 2) := by decide +kernel
theorem dX8_totalWithin_16 : decode cX8_totalWithin 16 = .ok (.invokespecial 154, 3) := by decide +kernel
theorem dX8_totalWithin_19 : decode cX8_totalWithin 19 = .ok (.athrow, 1) := by decide +kernel
theorem dX8_totalWithin_20 : decode cX8_totalWithin 20 = .ok (.aload_n 0, 1) := by decide +kernel
theorem dX8_totalWithin_21 : decode cX8_totalWithin 21 = .ok (.getfield 16, 3) := by decide +kernel
theorem dX8_totalWithin_24 : decode cX8_totalWithin 24 = .ok (.aload_n 0, 1) := by decide +kernel
theorem dX8_totalWithin_25 : decode cX8_totalWithin 25 = .ok (.getfield 12, 3) := by decide +kernel
theorem dX8_totalWithin_28 : decode cX8_totalWithin 28 = .ok (.invokevirtual 208, 3) := by decide +kernel
theorem dX8_totalWithin_31 : decode cX8_totalWithin 31 = .ok (.aload_n 0, 1) := by decide +kernel
theorem dX8_totalWithin_32 : decode cX8_totalWithin 32 = .ok (.getfield 16, 3) := by decide +kernel
theorem dX8_totalWithin_35 : decode cX8_totalWithin 35 = .ok (.iload_n 1, 1) := by decide +kernel
theorem dX8_totalWithin_36 : decode cX8_totalWithin 36 = .ok (.invokevirtual 103, 3) := by decide +kernel
theorem dX8_totalWithin_39 : decode cX8_totalWithin 39 = .ok (.ireturn, 1) := by decide +kernel
theorem dX8_breakCount_0 : decode cX8_breakCount 0 = .ok (.aload_n 0, 1) := by decide +kernel
theorem dX8_breakCount_1 : decode cX8_breakCount 1 = .ok (.getfield 12, 3) := by decide +kernel
theorem dX8_breakCount_4 : decode cX8_breakCount 4 = .ok (.getfield 221, 3) := by decide +kernel
theorem dX8_breakCount_7 : decode cX8_breakCount 7 = .ok (.ireturn, 1) := by decide +kernel
theorem dX8_playedVolume_0 : decode cX8_playedVolume 0 = .ok (.aload_n 0, 1) := by decide +kernel
theorem dX8_playedVolume_1 : decode cX8_playedVolume 1 = .ok (.iload_n 1, 1) := by decide +kernel
theorem dX8_playedVolume_2 : decode cX8_playedVolume 2 = .ok (.invokevirtual 119, 3) := by decide +kernel
theorem dX8_playedVolume_5 : decode cX8_playedVolume 5 = .ok (.getfield 224, 3) := by decide +kernel
theorem dX8_playedVolume_8 : decode cX8_playedVolume 8 = .ok (.ireturn, 1) := by decide +kernel
theorem dX8_totalVolume_0 : decode cX8_totalVolume 0 = .ok (.aload_n 0, 1) := by decide +kernel
theorem dX8_totalVolume_1 : decode cX8_totalVolume 1 = .ok (.getfield 12, 3) := by decide +kernel
theorem dX8_totalVolume_4 : decode cX8_totalVolume 4 = .ok (.getfield 227, 3) := by decide +kernel
theorem dX8_totalVolume_7 : decode cX8_totalVolume 7 = .ok (.lreturn, 1) := by decide +kernel
theorem dX8_totalVolumeBySounds_0 : decode cX8_totalVolumeBySounds 0 = .ok (.aload_n 0, 1) := by decide +kernel
theorem dX8_totalVolumeBySounds_1 : decode cX8_totalVolumeBySounds 1 = .ok (.bipush 115, 2) := by decide +kernel
theorem dX8_totalVolumeBySounds_3 : decode cX8_totalVolumeBySounds 3 = .ok (.invokevirtual 231, 3) := by decide +kernel
theorem dX8_totalVolumeBySounds_6 : decode cX8_totalVolumeBySounds 6 = .ok (.aload_n 0, 1) := by decide +kernel
theorem dX8_totalVolumeBySounds_7 : decode cX8_totalVolumeBySounds 7 = .ok (.bipush 119, 2) := by decide +kernel
theorem dX8_totalVolumeBySounds_9 : decode cX8_totalVolumeBySounds 9 = .ok (.invokevirtual 231, 3) := by decide +kernel
theorem dX8_totalVolumeBySounds_12 : decode cX8_totalVolumeBySounds 12 = .ok (.ladd, 1) := by decide +kernel
theorem dX8_totalVolumeBySounds_13 : decode cX8_totalVolumeBySounds 13 = .ok (.aload_n 0, 1) := by decide +kernel
theorem dX8_totalVolumeBySounds_14 : decode cX8_totalVolumeBySounds 14 = .ok (.bipush 100, 2) := by decide +kernel
theorem dX8_totalVolumeBySounds_16 : decode cX8_totalVolumeBySounds 16 = .ok (.invokevirtual 231, 3) := by decide +kernel
theorem dX8_totalVolumeBySounds_19 : decode cX8_totalVolumeBySounds 19 = .ok (.ladd, 1) := by decide +kernel
theorem dX8_totalVolumeBySounds_20 : decode cX8_totalVolumeBySounds 20 = .ok (.lreturn, 1) := by decide +kernel
theorem dX8_soundCount_0 : decode cX8_soundCount 0 = .ok (.iload_n 1, 1) := by decide +kernel
theorem dX8_soundCount_1 : decode cX8_soundCount 1 = .ok (.invokestatic 174, 3) := by decide +kernel
theorem dX8_soundCount_4 : decode cX8_soundCount 4 = .ok (.ifCond .lt 14, 3) := by decide +kernel
theorem dX8_soundCount_7 : decode cX8_soundCount 7 = .ok (.iload_n 2, 1) := by decide +kernel
theorem dX8_soundCount_8 : decode cX8_soundCount 8 = .ok (.iconst 1, 1) := by decide +kernel
theorem dX8_soundCount_9 : decode cX8_soundCount 9 = .ok (.if_icmp .lt 9, 3) := by decide +kernel
theorem dX8_soundCount_12 : decode cX8_soundCount 12 = .ok (.iload_n 2, 1) := by decide +kernel
theorem dX8_soundCount_13 : decode cX8_soundCount 13 = .ok (.bipush 9, 2) := by decide +kernel
theorem dX8_soundCount_15 : decode cX8_soundCount 15 = .ok (.if_icmp .le 13, 3) := by decide +kernel
theorem dX8_soundCount_18 : decode cX8_soundCount 18 = .ok (.new 150, 3) := by decide +kernel
theorem dX8_soundCount_21 : decode cX8_soundCount 21 = .ok (.dup, 1) := by decide +kernel
theorem dX8_soundCount_22 : decode cX8_soundCount 22 = .ok (.ldc 178, 2) := by decide +kernel
theorem dX8_soundCount_24 : decode cX8_soundCount 24 = .ok (.invokespecial 154, 3) := by decide +kernel
theorem dX8_soundCount_27 : decode cX8_soundCount 27 = .ok (.athrow, 1) := by decide +kernel
theorem dX8_soundCount_28 : decode cX8_soundCount 28 = .ok (.aload_n 0, 1) := by decide +kernel
theorem dX8_soundCount_29 : decode cX8_soundCount 29 = .ok (.getfield 12, 3) := by decide +kernel
theorem dX8_soundCount_32 : decode cX8_soundCount 32 = .ok (.iload_n 1, 1) := by decide +kernel
theorem dX8_soundCount_33 : decode cX8_soundCount 33 = .ok (.iload_n 2, 1) := by decide +kernel
theorem dX8_soundCount_34 : decode cX8_soundCount 34 = .ok (.invokevirtual 235, 3) := by decide +kernel
theorem dX8_soundCount_37 : decode cX8_soundCount 37 = .ok (.ireturn, 1) := by decide +kernel
theorem dX8_greatestTotal_0 : decode cX8_greatestTotal 0 = .ok (.aload_n 0, 1) := by decide +kernel
theorem dX8_greatestTotal_1 : decode cX8_greatestTotal 1 = .ok (.getfield 12, 3) := by decide +kernel
theorem dX8_greatestTotal_4 : decode cX8_greatestTotal 4 = .ok (.getfield 110, 3) := by decide +kernel
theorem dX8_greatestTotal_7 : decode cX8_greatestTotal 7 = .ok (.ifCond .ne 13, 3) := by decide +kernel
theorem dX8_greatestTotal_10 : decode cX8_greatestTotal 10 = .ok (.new 214, 3) := by decide +kernel
theorem dX8_greatestTotal_13 : decode cX8_greatestTotal 13 = .ok (.dup, 1) := by decide +kernel
theorem dX8_greatestTotal_14 : decode cX8_greatestTotal 14 = .ok (.ldc 238, 2) := by decide +kernel
theorem dX8_greatestTotal_16 : decode cX8_greatestTotal 16 = .ok (.invokespecial 218, 3) := by decide +kernel
theorem dX8_greatestTotal_19 : decode cX8_greatestTotal 19 = .ok (.athrow, 1) := by decide +kernel
theorem dX8_greatestTotal_20 : decode cX8_greatestTotal 20 = .ok (.aload_n 0, 1) := by decide +kernel
theorem dX8_greatestTotal_21 : decode cX8_greatestTotal 21 = .ok (.getfield 12, 3) := by decide +kernel
theorem dX8_greatestTotal_24 : decode cX8_greatestTotal 24 = .ok (.getfield 240, 3) := by decide +kernel
theorem dX8_greatestTotal_27 : decode cX8_greatestTotal 27 = .ok (.ireturn, 1) := by decide +kernel
theorem dX8_loggedTotal_0 : decode cX8_loggedTotal 0 = .ok (.iload_n 1, 1) := by decide +kernel
theorem dX8_loggedTotal_1 : decode cX8_loggedTotal 1 = .ok (.ifCond .lt 20, 3) := by decide +kernel
theorem dX8_loggedTotal_4 : decode cX8_loggedTotal 4 = .ok (.iload_n 1, 1) := by decide +kernel
theorem dX8_loggedTotal_5 : decode cX8_loggedTotal 5 = .ok (.bipush 10, 2) := by decide +kernel
theorem dX8_loggedTotal_7 : decode cX8_loggedTotal 7 = .ok (.if_icmp .ge 14, 3) := by decide +kernel
theorem dX8_loggedTotal_10 : decode cX8_loggedTotal 10 = .ok (.iload_n 1, 1) := by decide +kernel
theorem dX8_loggedTotal_11 : decode cX8_loggedTotal 11 = .ok (.aload_n 0, 1) := by decide +kernel
theorem dX8_loggedTotal_12 : decode cX8_loggedTotal 12 = .ok (.getfield 12, 3) := by decide +kernel
theorem dX8_loggedTotal_15 : decode cX8_loggedTotal 15 = .ok (.getfield 110, 3) := by decide +kernel
theorem dX8_loggedTotal_18 : decode cX8_loggedTotal 18 = .ok (.if_icmp .lt 13, 3) := by decide +kernel
theorem dX8_loggedTotal_21 : decode cX8_loggedTotal 21 = .ok (.new 214, 3) := by decide +kernel
theorem dX8_loggedTotal_24 : decode cX8_loggedTotal 24 = .ok (.dup, 1) := by decide +kernel
theorem dX8_loggedTotal_25 : decode cX8_loggedTotal 25 = .ok (.ldc 243, 2) := by decide +kernel
theorem dX8_loggedTotal_27 : decode cX8_loggedTotal 27 = .ok (.invokespecial 218, 3) := by decide +kernel
theorem dX8_loggedTotal_30 : decode cX8_loggedTotal 30 = .ok (.athrow, 1) := by decide +kernel
theorem dX8_loggedTotal_31 : decode cX8_loggedTotal 31 = .ok (.aload_n 0, 1) := by decide +kernel
theorem dX8_loggedTotal_32 : decode cX8_loggedTotal 32 = .ok (.getfield 12, 3) := by decide +kernel
theorem dX8_loggedTotal_35 : decode cX8_loggedTotal 35 = .ok (.aload_n 0, 1) := by decide +kernel
theorem dX8_loggedTotal_36 : decode cX8_loggedTotal 36 = .ok (.getfield 12, 3) := by decide +kernel
theorem dX8_loggedTotal_39 : decode cX8_loggedTotal 39 = .ok (.getfield 110, 3) := by decide +kernel
theorem dX8_loggedTotal_42 : decode cX8_loggedTotal 42 = .ok (.iconst 1, 1) := by decide +kernel
theorem dX8_loggedTotal_43 : decode cX8_loggedTotal 43 = .ok (.isub, 1) := by decide +kernel
theorem dX8_loggedTotal_44 : decode cX8_loggedTotal 44 = .ok (.iload_n 1, 1) := by decide +kernel
theorem dX8_loggedTotal_45 : decode cX8_loggedTotal 45 = .ok (.isub, 1) := by decide +kernel
theorem dX8_loggedTotal_46 : decode cX8_loggedTotal 46 = .ok (.invokevirtual 245, 3) := by decide +kernel
theorem dX8_loggedTotal_49 : decode cX8_loggedTotal 49 = .ok (.ireturn, 1) := by decide +kernel
theorem dX8_sectionByVolume_0 : decode cX8_sectionByVolume 0 = .ok (.iconst 0, 1) := by decide +kernel
theorem dX8_sectionByVolume_1 : decode cX8_sectionByVolume 1 = .ok (.istore_n 2, 1) := by decide +kernel
theorem dX8_sectionByVolume_2 : decode cX8_sectionByVolume 2 = .ok (.iload_n 2, 1) := by decide +kernel
theorem dX8_sectionByVolume_3 : decode cX8_sectionByVolume 3 = .ok (.aload_n 0, 1) := by decide +kernel
theorem dX8_sectionByVolume_4 : decode cX8_sectionByVolume 4 = .ok (.getfield 12, 3) := by decide +kernel
theorem dX8_sectionByVolume_7 : decode cX8_sectionByVolume 7 = .ok (.getfield 113, 3) := by decide +kernel
theorem dX8_sectionByVolume_10 : decode cX8_sectionByVolume 10 = .ok (.if_icmp .ge 20, 3) := by decide +kernel
theorem dX8_sectionByVolume_13 : decode cX8_sectionByVolume 13 = .ok (.aload_n 0, 1) := by decide +kernel
theorem dX8_sectionByVolume_14 : decode cX8_sectionByVolume 14 = .ok (.iload_n 2, 1) := by decide +kernel
theorem dX8_sectionByVolume_15 : decode cX8_sectionByVolume 15 = .ok (.invokevirtual 248, 3) := by decide +kernel
theorem dX8_sectionByVolume_18 : decode cX8_sectionByVolume 18 = .ok (.iload_n 1, 1) := by decide +kernel
theorem dX8_sectionByVolume_19 : decode cX8_sectionByVolume 19 = .ok (.if_icmp .ne 5, 3) := by decide +kernel
theorem dX8_sectionByVolume_22 : decode cX8_sectionByVolume 22 = .ok (.iload_n 2, 1) := by decide +kernel
theorem dX8_sectionByVolume_23 : decode cX8_sectionByVolume 23 = .ok (.ireturn, 1) := by decide +kernel
theorem dX8_sectionByVolume_24 : decode cX8_sectionByVolume 24 = .ok (.iinc 2 1, 3) := by decide +kernel
theorem dX8_sectionByVolume_27 : decode cX8_sectionByVolume 27 = .ok (.goto (-25), 3) := by decide +kernel
theorem dX8_sectionByVolume_30 : decode cX8_sectionByVolume 30 = .ok (.new 214, 3) := by decide +kernel
theorem dX8_sectionByVolume_33 : decode cX8_sectionByVolume 33 = .ok (.dup, 1) := by decide +kernel
theorem dX8_sectionByVolume_34 : decode cX8_sectionByVolume 34 = .ok (.ldc 251, 2) := by decide +kernel
theorem dX8_sectionByVolume_36 : decode cX8_sectionByVolume 36 = .ok (.invokespecial 218, 3) := by decide +kernel
theorem dX8_sectionByVolume_39 : decode cX8_sectionByVolume 39 = .ok (.athrow, 1) := by decide +kernel
theorem dX8_noteBySounds_0 : decode cX8_noteBySounds 0 = .ok (.iconst 1, 1) := by decide +kernel
theorem dX8_noteBySounds_1 : decode cX8_noteBySounds 1 = .ok (.istore_n 2, 1) := by decide +kernel
theorem dX8_noteBySounds_2 : decode cX8_noteBySounds 2 = .ok (.iload_n 2, 1) := by decide +kernel
theorem dX8_noteBySounds_3 : decode cX8_noteBySounds 3 = .ok (.bipush 9, 2) := by decide +kernel
theorem dX8_noteBySounds_5 : decode cX8_noteBySounds 5 = .ok (.if_icmp .gt 20, 3) := by decide +kernel
theorem dX8_noteBySounds_8 : decode cX8_noteBySounds 8 = .ok (.aload_n 0, 1) := by decide +kernel
theorem dX8_noteBySounds_9 : decode cX8_noteBySounds 9 = .ok (.iload_n 2, 1) := by decide +kernel
theorem dX8_noteBySounds_10 : decode cX8_noteBySounds 10 = .ok (.invokevirtual 253, 3) := by decide +kernel
theorem dX8_noteBySounds_13 : decode cX8_noteBySounds 13 = .ok (.iload_n 1, 1) := by decide +kernel
theorem dX8_noteBySounds_14 : decode cX8_noteBySounds 14 = .ok (.if_icmp .ne 5, 3) := by decide +kernel
theorem dX8_noteBySounds_17 : decode cX8_noteBySounds 17 = .ok (.iload_n 2, 1) := by decide +kernel
theorem dX8_noteBySounds_18 : decode cX8_noteBySounds 18 = .ok (.ireturn, 1) := by decide +kernel
theorem dX8_noteBySounds_19 : decode cX8_noteBySounds 19 = .ok (.iinc 2 1, 3) := by decide +kernel
theorem dX8_noteBySounds_22 : decode cX8_noteBySounds 22 = .ok (.goto (-20), 3) := by decide +kernel
theorem dX8_noteBySounds_25 : decode cX8_noteBySounds 25 = .ok (.new 214, 3) := by decide +kernel
theorem dX8_noteBySounds_28 : decode cX8_noteBySounds 28 = .ok (.dup, 1) := by decide +kernel
theorem dX8_noteBySounds_29 : decode cX8_noteBySounds 29 = .ok (.ldc_w 256, 3) := by decide +kernel
theorem dX8_noteBySounds_32 : decode cX8_noteBySounds 32 = .ok (.invokespecial 218, 3) := by decide +kernel
theorem dX8_noteBySounds_35 : decode cX8_noteBySounds 35 = .ok (.athrow, 1) := by decide +kernel
theorem dX8_meanTotal_0 : decode cX8_meanTotal 0 = .ok (.aload_n 0, 1) := by decide +kernel
theorem dX8_meanTotal_1 : decode cX8_meanTotal 1 = .ok (.getfield 12, 3) := by decide +kernel
theorem dX8_meanTotal_4 : decode cX8_meanTotal 4 = .ok (.getfield 110, 3) := by decide +kernel
theorem dX8_meanTotal_7 : decode cX8_meanTotal 7 = .ok (.ifCond .ne 13, 3) := by decide +kernel
theorem dX8_meanTotal_10 : decode cX8_meanTotal 10 = .ok (.new 258, 3) := by decide +kernel
theorem dX8_meanTotal_13 : decode cX8_meanTotal 13 = .ok (.dup, 1) := by decide +kernel
theorem dX8_meanTotal_14 : decode cX8_meanTotal 14 = .ok (.ldc 238, 2) := by decide +kernel
theorem dX8_meanTotal_16 : decode cX8_meanTotal 16 = .ok (.invokespecial 260, 3) := by decide +kernel
theorem dX8_meanTotal_19 : decode cX8_meanTotal 19 = .ok (.athrow, 1) := by decide +kernel
theorem dX8_meanTotal_20 : decode cX8_meanTotal 20 = .ok (.aload_n 0, 1) := by decide +kernel
theorem dX8_meanTotal_21 : decode cX8_meanTotal 21 = .ok (.getfield 12, 3) := by decide +kernel
theorem dX8_meanTotal_24 : decode cX8_meanTotal 24 = .ok (.getfield 227, 3) := by decide +kernel
end
section
theorem dX8_meanTotal_27 : decode cX8_meanTotal 27 = .ok (.l2d, 1) := by decide +kernel
theorem dX8_meanTotal_28 : decode cX8_meanTotal 28 = .ok (.aload_n 0, 1) := by decide +kernel
theorem dX8_meanTotal_29 : decode cX8_meanTotal 29 = .ok (.getfield 12, 3) := by decide +kernel
theorem dX8_meanTotal_32 : decode cX8_meanTotal 32 = .ok (.getfield 110, 3) := by decide +kernel
theorem dX8_meanTotal_35 : decode cX8_meanTotal 35 = .ok (.i2d, 1) := by decide +kernel
theorem dX8_meanTotal_36 : decode cX8_meanTotal 36 = .ok (.ddiv, 1) := by decide +kernel
theorem dX8_meanTotal_37 : decode cX8_meanTotal 37 = .ok (.dreturn, 1) := by decide +kernel
theorem dX8_maskedShare_0 : decode cX8_maskedShare 0 = .ok (.aload_n 0, 1) := by decide +kernel
theorem dX8_maskedShare_1 : decode cX8_maskedShare 1 = .ok (.iload_n 1, 1) := by decide +kernel
theorem dX8_maskedShare_2 : decode cX8_maskedShare 2 = .ok (.invokevirtual 119, 3) := by decide +kernel
theorem dX8_maskedShare_5 : decode cX8_maskedShare 5 = .ok (.astore_n 2, 1) := by decide +kernel
theorem dX8_maskedShare_6 : decode cX8_maskedShare 6 = .ok (.aload_n 2, 1) := by decide +kernel
theorem dX8_maskedShare_7 : decode cX8_maskedShare 7 = .ok (.getfield 130, 3) := by decide +kernel
theorem dX8_maskedShare_10 : decode cX8_maskedShare 10 = .ok (.ifCond .ne 5, 3) := by decide +kernel
theorem dX8_maskedShare_13 : decode cX8_maskedShare 13 = .ok (.fconst 0, 1) := by decide +kernel
theorem dX8_maskedShare_14 : decode cX8_maskedShare 14 = .ok (.freturn, 1) := by decide +kernel
theorem dX8_maskedShare_15 : decode cX8_maskedShare 15 = .ok (.aload_n 2, 1) := by decide +kernel
theorem dX8_maskedShare_16 : decode cX8_maskedShare 16 = .ok (.invokevirtual 261, 3) := by decide +kernel
theorem dX8_maskedShare_19 : decode cX8_maskedShare 19 = .ok (.i2f, 1) := by decide +kernel
theorem dX8_maskedShare_20 : decode cX8_maskedShare 20 = .ok (.aload_n 2, 1) := by decide +kernel
theorem dX8_maskedShare_21 : decode cX8_maskedShare 21 = .ok (.getfield 130, 3) := by decide +kernel
theorem dX8_maskedShare_24 : decode cX8_maskedShare 24 = .ok (.i2f, 1) := by decide +kernel
theorem dX8_maskedShare_25 : decode cX8_maskedShare 25 = .ok (.fdiv, 1) := by decide +kernel
theorem dX8_maskedShare_26 : decode cX8_maskedShare 26 = .ok (.freturn, 1) := by decide +kernel
theorem dX8_isConsistent_0 : decode cX8_isConsistent 0 = .ok (.aload_n 0, 1) := by decide +kernel
theorem dX8_isConsistent_1 : decode cX8_isConsistent 1 = .ok (.invokevirtual 264, 3) := by decide +kernel
theorem dX8_isConsistent_4 : decode cX8_isConsistent 4 = .ok (.aload_n 0, 1) := by decide +kernel
theorem dX8_isConsistent_5 : decode cX8_isConsistent 5 = .ok (.invokevirtual 268, 3) := by decide +kernel
theorem dX8_isConsistent_8 : decode cX8_isConsistent 8 = .ok (.lcmp, 1) := by decide +kernel
theorem dX8_isConsistent_9 : decode cX8_isConsistent 9 = .ok (.ifCond .ne 25, 3) := by decide +kernel
theorem dX8_isConsistent_12 : decode cX8_isConsistent 12 = .ok (.aload_n 0, 1) := by decide +kernel
theorem dX8_isConsistent_13 : decode cX8_isConsistent 13 = .ok (.invokevirtual 271, 3) := by decide +kernel
theorem dX8_isConsistent_16 : decode cX8_isConsistent 16 = .ok (.aload_n 0, 1) := by decide +kernel
theorem dX8_isConsistent_17 : decode cX8_isConsistent 17 = .ok (.invokevirtual 274, 3) := by decide +kernel
theorem dX8_isConsistent_20 : decode cX8_isConsistent 20 = .ok (.if_icmp .ne 14, 3) := by decide +kernel
theorem dX8_isConsistent_23 : decode cX8_isConsistent 23 = .ok (.aload_n 0, 1) := by decide +kernel
theorem dX8_isConsistent_24 : decode cX8_isConsistent 24 = .ok (.invokevirtual 277, 3) := by decide +kernel
theorem dX8_isConsistent_27 : decode cX8_isConsistent 27 = .ok (.ifCond .eq 7, 3) := by decide +kernel
theorem dX8_isConsistent_30 : decode cX8_isConsistent 30 = .ok (.iconst 1, 1) := by decide +kernel
theorem dX8_isConsistent_31 : decode cX8_isConsistent 31 = .ok (.goto 4, 3) := by decide +kernel
theorem dX8_isConsistent_34 : decode cX8_isConsistent 34 = .ok (.iconst 0, 1) := by decide +kernel
theorem dX8_isConsistent_35 : decode cX8_isConsistent 35 = .ok (.ireturn, 1) := by decide +kernel
theorem dX8_renderScore_0 : decode cX8_renderScore 0 = .ok (.aload_n 0, 1) := by decide +kernel
theorem dX8_renderScore_1 : decode cX8_renderScore 1 = .ok (.iload_n 1, 1) := by decide +kernel
theorem dX8_renderScore_2 : decode cX8_renderScore 2 = .ok (.invokevirtual 119, 3) := by decide +kernel
theorem dX8_renderScore_5 : decode cX8_renderScore 5 = .ok (.astore_n 2, 1) := by decide +kernel
theorem dX8_renderScore_6 : decode cX8_renderScore 6 = .ok (.aload_n 0, 1) := by decide +kernel
theorem dX8_renderScore_7 : decode cX8_renderScore 7 = .ok (.getfield 50, 3) := by decide +kernel
theorem dX8_renderScore_10 : decode cX8_renderScore 10 = .ok (.invokevirtual 281, 3) := by decide +kernel
theorem dX8_renderScore_13 : decode cX8_renderScore 13 = .ok (.aload_n 0, 1) := by decide +kernel
theorem dX8_renderScore_14 : decode cX8_renderScore 14 = .ok (.getfield 50, 3) := by decide +kernel
theorem dX8_renderScore_17 : decode cX8_renderScore 17 = .ok (.aload_n 2, 1) := by decide +kernel
theorem dX8_renderScore_18 : decode cX8_renderScore 18 = .ok (.getfield 123, 3) := by decide +kernel
theorem dX8_renderScore_21 : decode cX8_renderScore 21 = .ok (.invokevirtual 284, 3) := by decide +kernel
theorem dX8_renderScore_24 : decode cX8_renderScore 24 = .ok (.aload_n 0, 1) := by decide +kernel
theorem dX8_renderScore_25 : decode cX8_renderScore 25 = .ok (.getfield 50, 3) := by decide +kernel
theorem dX8_renderScore_28 : decode cX8_renderScore 28 = .ok (.bipush 58, 2) := by decide +kernel
theorem dX8_renderScore_30 : decode cX8_renderScore 30 = .ok (.invokevirtual 284, 3) := by decide +kernel
theorem dX8_renderScore_33 : decode cX8_renderScore 33 = .ok (.iconst 0, 1) := by decide +kernel
theorem dX8_renderScore_34 : decode cX8_renderScore 34 = .ok (.istore_n 3, 1) := by decide +kernel
theorem dX8_renderScore_35 : decode cX8_renderScore 35 = .ok (.iload_n 3, 1) := by decide +kernel
theorem dX8_renderScore_36 : decode cX8_renderScore 36 = .ok (.aload_n 2, 1) := by decide +kernel
theorem dX8_renderScore_37 : decode cX8_renderScore 37 = .ok (.getfield 127, 3) := by decide +kernel
theorem dX8_renderScore_40 : decode cX8_renderScore 40 = .ok (.if_icmp .ge 57, 3) := by decide +kernel
theorem dX8_renderScore_43 : decode cX8_renderScore 43 = .ok (.iload_n 3, 1) := by decide +kernel
theorem dX8_renderScore_44 : decode cX8_renderScore 44 = .ok (.ifCond .le 12, 3) := by decide +kernel
theorem dX8_renderScore_47 : decode cX8_renderScore 47 = .ok (.aload_n 0, 1) := by decide +kernel
theorem dX8_renderScore_48 : decode cX8_renderScore 48 = .ok (.getfield 50, 3) := by decide +kernel
theorem dX8_renderScore_51 : decode cX8_renderScore 51 = .ok (.bipush 47, 2) := by decide +kernel
theorem dX8_renderScore_53 : decode cX8_renderScore 53 = .ok (.invokevirtual 284, 3) := by decide +kernel
theorem dX8_renderScore_56 : decode cX8_renderScore 56 = .ok (.iconst 0, 1) := by decide +kernel
theorem dX8_renderScore_57 : decode cX8_renderScore 57 = .ok (.istore 4, 2) := by decide +kernel
theorem dX8_renderScore_59 : decode cX8_renderScore 59 = .ok (.iload 4, 2) := by decide +kernel
theorem dX8_renderScore_61 : decode cX8_renderScore 61 = .ok (.aload_n 2, 1) := by decide +kernel
theorem dX8_renderScore_62 : decode cX8_renderScore 62 = .ok (.getfield 130, 3) := by decide +kernel
theorem dX8_renderScore_65 : decode cX8_renderScore 65 = .ok (.if_icmp .ge 26, 3) := by decide +kernel
theorem dX8_renderScore_68 : decode cX8_renderScore 68 = .ok (.aload_n 0, 1) := by decide +kernel
theorem dX8_renderScore_69 : decode cX8_renderScore 69 = .ok (.getfield 50, 3) := by decide +kernel
theorem dX8_renderScore_72 : decode cX8_renderScore 72 = .ok (.aload_n 2, 1) := by decide +kernel
theorem dX8_renderScore_73 : decode cX8_renderScore 73 = .ok (.iload_n 3, 1) := by decide +kernel
theorem dX8_renderScore_74 : decode cX8_renderScore 74 = .ok (.iload 4, 2) := by decide +kernel
theorem dX8_renderScore_76 : decode cX8_renderScore 76 = .ok (.invokevirtual 144, 3) := by decide +kernel
theorem dX8_renderScore_79 : decode cX8_renderScore 79 = .ok (.invokestatic 288, 3) := by decide +kernel
theorem dX8_renderScore_82 : decode cX8_renderScore 82 = .ok (.invokevirtual 284, 3) := by decide +kernel
theorem dX8_renderScore_85 : decode cX8_renderScore 85 = .ok (.iinc 4 1, 3) := by decide +kernel
theorem dX8_renderScore_88 : decode cX8_renderScore 88 = .ok (.goto (-29), 3) := by decide +kernel
theorem dX8_renderScore_91 : decode cX8_renderScore 91 = .ok (.iinc 3 1, 3) := by decide +kernel
theorem dX8_renderScore_94 : decode cX8_renderScore 94 = .ok (.goto (-59), 3) := by decide +kernel
theorem dX8_renderScore_97 : decode cX8_renderScore 97 = .ok (.aload_n 0, 1) := by decide +kernel
theorem dX8_renderScore_98 : decode cX8_renderScore 98 = .ok (.getfield 50, 3) := by decide +kernel
theorem dX8_renderScore_101 : decode cX8_renderScore 101 = .ok (.getfield 292, 3) := by decide +kernel
theorem dX8_renderScore_104 : decode cX8_renderScore 104 = .ok (.ireturn, 1) := by decide +kernel
theorem dX8_renderMask_0 : decode cX8_renderMask 0 = .ok (.aload_n 0, 1) := by decide +kernel
theorem dX8_renderMask_1 : decode cX8_renderMask 1 = .ok (.iload_n 1, 1) := by decide +kernel
theorem dX8_renderMask_2 : decode cX8_renderMask 2 = .ok (.invokevirtual 119, 3) := by decide +kernel
theorem dX8_renderMask_5 : decode cX8_renderMask 5 = .ok (.astore_n 2, 1) := by decide +kernel
theorem dX8_renderMask_6 : decode cX8_renderMask 6 = .ok (.aload_n 0, 1) := by decide +kernel
theorem dX8_renderMask_7 : decode cX8_renderMask 7 = .ok (.getfield 50, 3) := by decide +kernel
theorem dX8_renderMask_10 : decode cX8_renderMask 10 = .ok (.invokevirtual 281, 3) := by decide +kernel
theorem dX8_renderMask_13 : decode cX8_renderMask 13 = .ok (.iconst 0, 1) := by decide +kernel
theorem dX8_renderMask_14 : decode cX8_renderMask 14 = .ok (.istore_n 3, 1) := by decide +kernel
theorem dX8_renderMask_15 : decode cX8_renderMask 15 = .ok (.iload_n 3, 1) := by decide +kernel
theorem dX8_renderMask_16 : decode cX8_renderMask 16 = .ok (.aload_n 2, 1) := by decide +kernel
theorem dX8_renderMask_17 : decode cX8_renderMask 17 = .ok (.getfield 130, 3) := by decide +kernel
theorem dX8_renderMask_20 : decode cX8_renderMask 20 = .ok (.if_icmp .ge 31, 3) := by decide +kernel
theorem dX8_renderMask_23 : decode cX8_renderMask 23 = .ok (.aload_n 0, 1) := by decide +kernel
theorem dX8_renderMask_24 : decode cX8_renderMask 24 = .ok (.getfield 50, 3) := by decide +kernel
theorem dX8_renderMask_27 : decode cX8_renderMask 27 = .ok (.aload_n 2, 1) := by decide +kernel
theorem dX8_renderMask_28 : decode cX8_renderMask 28 = .ok (.iload_n 3, 1) := by decide +kernel
theorem dX8_renderMask_29 : decode cX8_renderMask 29 = .ok (.invokevirtual 155, 3) := by decide +kernel
theorem dX8_renderMask_32 : decode cX8_renderMask 32 = .ok (.ifCond .eq 8, 3) := by decide +kernel
theorem dX8_renderMask_35 : decode cX8_renderMask 35 = .ok (.bipush 120, 2) := by decide +kernel
theorem dX8_renderMask_37 : decode cX8_renderMask 37 = .ok (.goto 5, 3) := by decide +kernel
theorem dX8_renderMask_40 : decode cX8_renderMask 40 = .ok (.bipush 46, 2) := by decide +kernel
theorem dX8_renderMask_42 : decode cX8_renderMask 42 = .ok (.invokevirtual 284, 3) := by decide +kernel
theorem dX8_renderMask_45 : decode cX8_renderMask 45 = .ok (.iinc 3 1, 3) := by decide +kernel
theorem dX8_renderMask_48 : decode cX8_renderMask 48 = .ok (.goto (-33), 3) := by decide +kernel
theorem dX8_renderMask_51 : decode cX8_renderMask 51 = .ok (.aload_n 0, 1) := by decide +kernel
theorem dX8_renderMask_52 : decode cX8_renderMask 52 = .ok (.getfield 50, 3) := by decide +kernel
theorem dX8_renderMask_55 : decode cX8_renderMask 55 = .ok (.bipush 102, 2) := by decide +kernel
theorem dX8_renderMask_57 : decode cX8_renderMask 57 = .ok (.invokevirtual 284, 3) := by decide +kernel
theorem dX8_renderMask_60 : decode cX8_renderMask 60 = .ok (.aload_n 0, 1) := by decide +kernel
theorem dX8_renderMask_61 : decode cX8_renderMask 61 = .ok (.getfield 50, 3) := by decide +kernel
theorem dX8_renderMask_64 : decode cX8_renderMask 64 = .ok (.aload_n 2, 1) := by decide +kernel
theorem dX8_renderMask_65 : decode cX8_renderMask 65 = .ok (.getfield 158, 3) := by decide +kernel
theorem dX8_renderMask_68 : decode cX8_renderMask 68 = .ok (.invokestatic 288, 3) := by decide +kernel
theorem dX8_renderMask_71 : decode cX8_renderMask 71 = .ok (.invokevirtual 284, 3) := by decide +kernel
theorem dX8_renderMask_74 : decode cX8_renderMask 74 = .ok (.aload_n 2, 1) := by decide +kernel
theorem dX8_renderMask_75 : decode cX8_renderMask 75 = .ok (.getfield 161, 3) := by decide +kernel
theorem dX8_renderMask_78 : decode cX8_renderMask 78 = .ok (.ifCond .le 26, 3) := by decide +kernel
theorem dX8_renderMask_81 : decode cX8_renderMask 81 = .ok (.aload_n 0, 1) := by decide +kernel
theorem dX8_renderMask_82 : decode cX8_renderMask 82 = .ok (.getfield 50, 3) := by decide +kernel
theorem dX8_renderMask_85 : decode cX8_renderMask 85 = .ok (.bipush 114, 2) := by decide +kernel
theorem dX8_renderMask_87 : decode cX8_renderMask 87 = .ok (.invokevirtual 284, 3) := by decide +kernel
theorem dX8_renderMask_90 : decode cX8_renderMask 90 = .ok (.aload_n 0, 1) := by decide +kernel
theorem dX8_renderMask_91 : decode cX8_renderMask 91 = .ok (.getfield 50, 3) := by decide +kernel
theorem dX8_renderMask_94 : decode cX8_renderMask 94 = .ok (.aload_n 2, 1) := by decide +kernel
theorem dX8_renderMask_95 : decode cX8_renderMask 95 = .ok (.getfield 161, 3) := by decide +kernel
theorem dX8_renderMask_98 : decode cX8_renderMask 98 = .ok (.invokestatic 288, 3) := by decide +kernel
theorem dX8_renderMask_101 : decode cX8_renderMask 101 = .ok (.invokevirtual 284, 3) := by decide +kernel
theorem dX8_renderMask_104 : decode cX8_renderMask 104 = .ok (.aload_n 0, 1) := by decide +kernel
theorem dX8_renderMask_105 : decode cX8_renderMask 105 = .ok (.getfield 50, 3) := by decide +kernel
theorem dX8_renderMask_108 : decode cX8_renderMask 108 = .ok (.getfield 292, 3) := by decide +kernel
theorem dX8_renderMask_111 : decode cX8_renderMask 111 = .ok (.ireturn, 1) := by decide +kernel
theorem dX8_outputAt_0 : decode cX8_outputAt 0 = .ok (.aload_n 0, 1) := by decide +kernel
theorem dX8_outputAt_1 : decode cX8_outputAt 1 = .ok (.getfield 50, 3) := by decide +kernel
theorem dX8_outputAt_4 : decode cX8_outputAt 4 = .ok (.iload_n 1, 1) := by decide +kernel
theorem dX8_outputAt_5 : decode cX8_outputAt 5 = .ok (.invokevirtual 295, 3) := by decide +kernel
theorem dX8_outputAt_8 : decode cX8_outputAt 8 = .ok (.ifCond .ne 14, 3) := by decide +kernel
theorem dX8_outputAt_11 : decode cX8_outputAt 11 = .ok (.new 137, 3) := by decide +kernel
theorem dX8_outputAt_14 : decode cX8_outputAt 14 = .ok (.dup, 1) := by decide +kernel
theorem dX8_outputAt_15 : decode cX8_outputAt 15 = .ok (.ldc_w 298, 3) := by decide +kernel
theorem dX8_outputAt_18 : decode cX8_outputAt 18 = .ok (.invokespecial 141, 3) := by decide +kernel
theorem dX8_outputAt_21 : decode cX8_outputAt 21 = .ok (.athrow, 1) := by decide +kernel
theorem dX8_outputAt_22 : decode cX8_outputAt 22 = .ok (.aload_n 0, 1) := by decide +kernel
theorem dX8_outputAt_23 : decode cX8_outputAt 23 = .ok (.getfield 50, 3) := by decide +kernel
theorem dX8_outputAt_26 : decode cX8_outputAt 26 = .ok (.iload_n 1, 1) := by decide +kernel
theorem dX8_outputAt_27 : decode cX8_outputAt 27 = .ok (.invokevirtual 300, 3) := by decide +kernel
theorem dX8_outputAt_30 : decode cX8_outputAt 30 = .ok (.ireturn, 1) := by decide +kernel
theorem dX8_type_0 : decode cX8_type 0 = .ok (.iload_n 1, 1) := by decide +kernel
theorem dX8_type_1 : decode cX8_type 1 = .ok (.bipush 32, 2) := by decide +kernel
theorem dX8_type_3 : decode cX8_type 3 = .ok (.if_icmp .lt 9, 3) := by decide +kernel
theorem dX8_type_6 : decode cX8_type 6 = .ok (.iload_n 1, 1) := by decide +kernel
theorem dX8_type_7 : decode cX8_type 7 = .ok (.bipush 126, 2) := by decide +kernel
theorem dX8_type_9 : decode cX8_type 9 = .ok (.if_icmp .le 14, 3) := by decide +kernel
theorem dX8_type_12 : decode cX8_type 12 = .ok (.new 150, 3) := by decide +kernel
theorem dX8_type_15 : decode cX8_type 15 = .ok (.dup, 1) := by decide +kernel
theorem dX8_type_16 : decode cX8_type 16 = .ok (.ldc_w 303, 3) := by decide +kernel
theorem dX8_type_19 : decode cX8_type 19 = .ok (.invokespecial 154, 3) := by decide +kernel
theorem dX8_type_22 : decode cX8_type 22 = .ok (.athrow, 1) := by decide +kernel
theorem dX8_type_23 : decode cX8_type 23 = .ok (.aload_n 0, 1) := by decide +kernel
theorem dX8_type_24 : decode cX8_type 24 = .ok (.getfield 43, 3) := by decide +kernel
theorem dX8_type_27 : decode cX8_type 27 = .ok (.getfield 305, 3) := by decide +kernel
theorem dX8_type_30 : decode cX8_type 30 = .ok (.invokevirtual 308, 3) := by decide +kernel
theorem dX8_type_33 : decode cX8_type 33 = .ok (.ifCond .eq 14, 3) := by decide +kernel
theorem dX8_type_36 : decode cX8_type 36 = .ok (.new 311, 3) := by decide +kernel
theorem dX8_type_39 : decode cX8_type 39 = .ok (.dup, 1) := by decide +kernel
theorem dX8_type_40 : decode cX8_type 40 = .ok (.ldc_w 313, 3) := by decide +kernel
theorem dX8_type_43 : decode cX8_type 43 = .ok (.invokespecial 315, 3) := by decide +kernel
theorem dX8_type_46 : decode cX8_type 46 = .ok (.athrow, 1) := by decide +kernel
theorem dX8_type_47 : decode cX8_type 47 = .ok (.aload_n 0, 1) := by decide +kernel
theorem dX8_type_48 : decode cX8_type 48 = .ok (.getfield 43, 3) := by decide +kernel
theorem dX8_type_51 : decode cX8_type 51 = .ok (.getfield 305, 3) := by decide +kernel
theorem dX8_type_54 : decode cX8_type 54 = .ok (.iload_n 1, 1) := by decide +kernel
theorem dX8_type_55 : decode cX8_type 55 = .ok (.invokevirtual 284, 3) := by decide +kernel
theorem dX8_type_58 : decode cX8_type 58 = .ok (.aload_n 0, 1) := by decide +kernel
theorem dX8_type_59 : decode cX8_type 59 = .ok (.getfield 43, 3) := by decide +kernel
theorem dX8_type_62 : decode cX8_type 62 = .ok (.getfield 305, 3) := by decide +kernel
theorem dX8_type_65 : decode cX8_type 65 = .ok (.getfield 292, 3) := by decide +kernel
theorem dX8_type_68 : decode cX8_type 68 = .ok (.ireturn, 1) := by decide +kernel
theorem dX8_runScript_0 : decode cX8_runScript 0 = .ok (.aload_n 0, 1) := by decide +kernel
theorem dX8_runScript_1 : decode cX8_runScript 1 = .ok (.getfield 43, 3) := by decide +kernel
theorem dX8_runScript_4 : decode cX8_runScript 4 = .ok (.invokevirtual 316, 3) := by decide +kernel
theorem dX8_runScript_7 : decode cX8_runScript 7 = .ok (.istore_n 1, 1) := by decide +kernel
theorem dX8_runScript_8 : decode cX8_runScript 8 = .ok (.aload_n 0, 1) := by decide +kernel
theorem dX8_runScript_9 : decode cX8_runScript 9 = .ok (.getfield 43, 3) := by decide +kernel
theorem dX8_runScript_12 : decode cX8_runScript 12 = .ok (.getfield 305, 3) := by decide +kernel
theorem dX8_runScript_15 : decode cX8_runScript 15 = .ok (.invokevirtual 281, 3) := by decide +kernel
theorem dX8_runScript_18 : decode cX8_runScript 18 = .ok (.iload_n 1, 1) := by decide +kernel
theorem dX8_runScript_19 : decode cX8_runScript 19 = .ok (.ifCond .ne 25, 3) := by decide +kernel
theorem dX8_runScript_22 : decode cX8_runScript 22 = .ok (.aload_n 0, 1) := by decide +kernel
theorem dX8_runScript_23 : decode cX8_runScript 23 = .ok (.aload_n 0, 1) := by decide +kernel
theorem dX8_runScript_24 : decode cX8_runScript 24 = .ok (.getfield 43, 3) := by decide +kernel
theorem dX8_runScript_27 : decode cX8_runScript 27 = .ok (.getfield 319, 3) := by decide +kernel
theorem dX8_runScript_30 : decode cX8_runScript 30 = .ok (.putfield 54, 3) := by decide +kernel
theorem dX8_runScript_33 : decode cX8_runScript 33 = .ok (.new 150, 3) := by decide +kernel
theorem dX8_runScript_36 : decode cX8_runScript 36 = .ok (.dup, 1) := by decide +kernel
theorem dX8_runScript_37 : decode cX8_runScript 37 = .ok (.ldc_w 322, 3) := by decide +kernel
theorem dX8_runScript_40 : decode cX8_runScript 40 = .ok (.invokespecial 154, 3) := by decide +kernel
theorem dX8_runScript_43 : decode cX8_runScript 43 = .ok (.athrow, 1) := by decide +kernel
theorem dX8_runScript_44 : decode cX8_runScript 44 = .ok (.aload_n 0, 1) := by decide +kernel
theorem dX8_runScript_45 : decode cX8_runScript 45 = .ok (.getfield 29, 3) := by decide +kernel
theorem dX8_runScript_48 : decode cX8_runScript 48 = .ok (.aload_n 0, 1) := by decide +kernel
theorem dX8_runScript_49 : decode cX8_runScript 49 = .ok (.getfield 12, 3) := by decide +kernel
theorem dX8_runScript_52 : decode cX8_runScript 52 = .ok (.invokevirtual 61, 3) := by decide +kernel
theorem dX8_runScript_55 : decode cX8_runScript 55 = .ok (.iconst 0, 1) := by decide +kernel
theorem dX8_runScript_56 : decode cX8_runScript 56 = .ok (.istore_n 2, 1) := by decide +kernel
theorem dX8_runScript_57 : decode cX8_runScript 57 = .ok (.iload_n 2, 1) := by decide +kernel
theorem dX8_runScript_58 : decode cX8_runScript 58 = .ok (.aload_n 0, 1) := by decide +kernel
theorem dX8_runScript_59 : decode cX8_runScript 59 = .ok (.getfield 43, 3) := by decide +kernel
theorem dX8_runScript_62 : decode cX8_runScript 62 = .ok (.getfield 324, 3) := by decide +kernel
theorem dX8_runScript_65 : decode cX8_runScript 65 = .ok (.if_icmp .ge 64, 3) := by decide +kernel
theorem dX8_runScript_68 : decode cX8_runScript 68 = .ok (.iload_n 2, 1) := by decide +kernel
theorem dX8_runScript_69 : decode cX8_runScript 69 = .ok (.aload_n 0, 1) := by decide +kernel
theorem dX8_runScript_70 : decode cX8_runScript 70 = .ok (.getfield 43, 3) := by decide +kernel
theorem dX8_runScript_73 : decode cX8_runScript 73 = .ok (.getfield 325, 3) := by decide +kernel
theorem dX8_runScript_76 : decode cX8_runScript 76 = .ok (.arraylength, 1) := by decide +kernel
theorem dX8_runScript_77 : decode cX8_runScript 77 = .ok (.if_icmp .ge 52, 3) := by decide +kernel
theorem dX8_runScript_80 : decode cX8_runScript 80 = .ok (.aload_n 0, 1) := by decide +kernel
theorem dX8_runScript_81 : decode cX8_runScript 81 = .ok (.aload_n 0, 1) := by decide +kernel
theorem dX8_runScript_82 : decode cX8_runScript 82 = .ok (.getfield 43, 3) := by decide +kernel
theorem dX8_runScript_85 : decode cX8_runScript 85 = .ok (.getfield 325, 3) := by decide +kernel
theorem dX8_runScript_88 : decode cX8_runScript 88 = .ok (.iload_n 2, 1) := by decide +kernel
theorem dX8_runScript_89 : decode cX8_runScript 89 = .ok (.aaload, 1) := by decide +kernel
theorem dX8_runScript_90 : decode cX8_runScript 90 = .ok (.invokevirtual 329, 3) := by decide +kernel
theorem dX8_runScript_93 : decode cX8_runScript 93 = .ok (.ifCond .ge 30, 3) := by decide +kernel
theorem dX8_runScript_96 : decode cX8_runScript 96 = .ok (.aload_n 0, 1) := by decide +kernel
theorem dX8_runScript_97 : decode cX8_runScript 97 = .ok (.getfield 29, 3) := by decide +kernel
theorem dX8_runScript_100 : decode cX8_runScript 100 = .ok (.aload_n 0, 1) := by decide +kernel
theorem dX8_runScript_101 : decode cX8_runScript 101 = .ok (.getfield 12, 3) := by decide +kernel
theorem dX8_runScript_104 : decode cX8_runScript 104 = .ok (.invokevirtual 333, 3) := by decide +kernel
theorem dX8_runScript_107 : decode cX8_runScript 107 = .ok (.aload_n 0, 1) := by decide +kernel
theorem dX8_runScript_108 : decode cX8_runScript 108 = .ok (.iload_n 2, 1) := by decide +kernel
theorem dX8_runScript_109 : decode cX8_runScript 109 = .ok (.putfield 58, 3) := by decide +kernel
theorem dX8_runScript_112 : decode cX8_runScript 112 = .ok (.new 311, 3) := by decide +kernel
theorem dX8_runScript_115 : decode cX8_runScript 115 = .ok (.dup, 1) := by decide +kernel
theorem dX8_runScript_116 : decode cX8_runScript 116 = .ok (.ldc_w 336, 3) := by decide +kernel
theorem dX8_runScript_119 : decode cX8_runScript 119 = .ok (.invokespecial 315, 3) := by decide +kernel
theorem dX8_runScript_122 : decode cX8_runScript 122 = .ok (.athrow, 1) := by decide +kernel
theorem dX8_runScript_123 : decode cX8_runScript 123 = .ok (.iinc 2 1, 3) := by decide +kernel
theorem dX8_runScript_126 : decode cX8_runScript 126 = .ok (.goto (-69), 3) := by decide +kernel
theorem dX8_runScript_129 : decode cX8_runScript 129 = .ok (.aload_n 0, 1) := by decide +kernel
theorem dX8_runScript_130 : decode cX8_runScript 130 = .ok (.getfield 29, 3) := by decide +kernel
theorem dX8_runScript_133 : decode cX8_runScript 133 = .ok (.invokevirtual 338, 3) := by decide +kernel
theorem dX8_runScript_136 : decode cX8_runScript 136 = .ok (.aload_n 0, 1) := by decide +kernel
theorem dX8_runScript_137 : decode cX8_runScript 137 = .ok (.getfield 43, 3) := by decide +kernel
theorem dX8_runScript_140 : decode cX8_runScript 140 = .ok (.getfield 324, 3) := by decide +kernel
theorem dX8_runScript_143 : decode cX8_runScript 143 = .ok (.ireturn, 1) := by decide +kernel
theorem dX8_errorPosition_0 : decode cX8_errorPosition 0 = .ok (.aload_n 0, 1) := by decide +kernel
theorem dX8_errorPosition_1 : decode cX8_errorPosition 1 = .ok (.getfield 54, 3) := by decide +kernel
theorem dX8_errorPosition_4 : decode cX8_errorPosition 4 = .ok (.iconst (-1), 1) := by decide +kernel
theorem dX8_errorPosition_5 : decode cX8_errorPosition 5 = .ok (.if_icmp .ne 14, 3) := by decide +kernel
theorem dX8_errorPosition_8 : decode cX8_errorPosition 8 = .ok (.new 214, 3) := by decide +kernel
theorem dX8_errorPosition_11 : decode cX8_errorPosition 11 = .ok (.dup, 1) := by decide +kernel
theorem dX8_errorPosition_12 : decode cX8_errorPosition 12 = .ok (.ldc_w 341, 3) := by decide +kernel
theorem dX8_errorPosition_15 : decode cX8_errorPosition 15 = .ok (.invokespecial 218, 3) := by decide +kernel
theorem dX8_errorPosition_18 : decode cX8_errorPosition 18 = .ok (.athrow, 1) := by decide +kernel
theorem dX8_errorPosition_19 : decode cX8_errorPosition 19 = .ok (.aload_n 0, 1) := by decide +kernel
theorem dX8_errorPosition_20 : decode cX8_errorPosition 20 = .ok (.getfield 54, 3) := by decide +kernel
theorem dX8_errorPosition_23 : decode cX8_errorPosition 23 = .ok (.ireturn, 1) := by decide +kernel
theorem dX8_failedCommand_0 : decode cX8_failedCommand 0 = .ok (.aload_n 0, 1) := by decide +kernel
theorem dX8_failedCommand_1 : decode cX8_failedCommand 1 = .ok (.getfield 58, 3) := by decide +kernel
theorem dX8_failedCommand_4 : decode cX8_failedCommand 4 = .ok (.iconst (-1), 1) := by decide +kernel
theorem dX8_failedCommand_5 : decode cX8_failedCommand 5 = .ok (.if_icmp .ne 14, 3) := by decide +kernel
theorem dX8_failedCommand_8 : decode cX8_failedCommand 8 = .ok (.new 214, 3) := by decide +kernel
theorem dX8_failedCommand_11 : decode cX8_failedCommand 11 = .ok (.dup, 1) := by decide +kernel
theorem dX8_failedCommand_12 : decode cX8_failedCommand 12 = .ok (.ldc_w 343, 3) := by decide +kernel
theorem dX8_failedCommand_15 : decode cX8_failedCommand 15 = .ok (.invokespecial 218, 3) := by decide +kernel
theorem dX8_failedCommand_18 : decode cX8_failedCommand 18 = .ok (.athrow, 1) := by decide +kernel
theorem dX8_failedCommand_19 : decode cX8_failedCommand 19 = .ok (.aload_n 0, 1) := by decide +kernel
theorem dX8_failedCommand_20 : decode cX8_failedCommand 20 = .ok (.getfield 58, 3) := by decide +kernel
theorem dX8_failedCommand_23 : decode cX8_failedCommand 23 = .ok (.ireturn, 1) := by decide +kernel
theorem dX8_undo_0 : decode cX8_undo 0 = .ok (.aload_n 0, 1) := by decide +kernel
theorem dX8_undo_1 : decode cX8_undo 1 = .ok (.getfield 29, 3) := by decide +kernel
theorem dX8_undo_4 : decode cX8_undo 4 = .ok (.getfield 345, 3) := by decide +kernel
theorem dX8_undo_7 : decode cX8_undo 7 = .ok (.ifCond .ne 14, 3) := by decide +kernel
theorem dX8_undo_10 : decode cX8_undo 10 = .ok (.new 311, 3) := by decide +kernel
theorem dX8_undo_13 : decode cX8_undo 13 = .ok (.dup, 1) := by decide +kernel
theorem dX8_undo_14 : decode cX8_undo 14 = .ok (.ldc_w 346, 3) := by decide +kernel
theorem dX8_undo_17 : decode cX8_undo 17 = .ok (.invokespecial 315, 3) := by decide +kernel
theorem dX8_undo_20 : decode cX8_undo 20 = .ok (.athrow, 1) := by decide +kernel
theorem dX8_undo_21 : decode cX8_undo 21 = .ok (.aload_n 0, 1) := by decide +kernel
theorem dX8_undo_22 : decode cX8_undo 22 = .ok (.getfield 29, 3) := by decide +kernel
theorem dX8_undo_25 : decode cX8_undo 25 = .ok (.aload_n 0, 1) := by decide +kernel
theorem dX8_undo_26 : decode cX8_undo 26 = .ok (.getfield 12, 3) := by decide +kernel
theorem dX8_undo_29 : decode cX8_undo 29 = .ok (.invokevirtual 348, 3) := by decide +kernel
theorem dX8_undo_32 : decode cX8_undo 32 = .ok (.aload_n 0, 1) := by decide +kernel
theorem dX8_undo_33 : decode cX8_undo 33 = .ok (.getfield 29, 3) := by decide +kernel
theorem dX8_undo_36 : decode cX8_undo 36 = .ok (.getfield 345, 3) := by decide +kernel
theorem dX8_undo_39 : decode cX8_undo 39 = .ok (.ireturn, 1) := by decide +kernel
theorem dX8_save_0 : decode cX8_save 0 = .ok (.aload_n 0, 1) := by decide +kernel
theorem dX8_save_1 : decode cX8_save 1 = .ok (.getfield 19, 3) := by decide +kernel
theorem dX8_save_4 : decode cX8_save 4 = .ok (.aload_n 0, 1) := by decide +kernel
theorem dX8_save_5 : decode cX8_save 5 = .ok (.getfield 12, 3) := by decide +kernel
theorem dX8_save_8 : decode cX8_save 8 = .ok (.invokevirtual 208, 3) := by decide +kernel
theorem dX8_save_11 : decode cX8_save 11 = .ok (.aload_n 0, 1) := by decide +kernel
theorem dX8_save_12 : decode cX8_save 12 = .ok (.iconst 1, 1) := by decide +kernel
theorem dX8_save_13 : decode cX8_save 13 = .ok (.putfield 22, 3) := by decide +kernel
theorem dX8_save_16 : decode cX8_save 16 = .ok (.aload_n 0, 1) := by decide +kernel
theorem dX8_save_17 : decode cX8_save 17 = .ok (.getfield 12, 3) := by decide +kernel
theorem dX8_save_20 : decode cX8_save 20 = .ok (.getfield 113, 3) := by decide +kernel
theorem dX8_save_23 : decode cX8_save 23 = .ok (.ireturn, 1) := by decide +kernel
theorem dX8_restore_0 : decode cX8_restore 0 = .ok (.aload_n 0, 1) := by decide +kernel
theorem dX8_restore_1 : decode cX8_restore 1 = .ok (.getfield 22, 3) := by decide +kernel
theorem dX8_restore_4 : decode cX8_restore 4 = .ok (.ifCond .ne 14, 3) := by decide +kernel
theorem dX8_restore_7 : decode cX8_restore 7 = .ok (.new 311, 3) := by decide +kernel
theorem dX8_restore_10 : decode cX8_restore 10 = .ok (.dup, 1) := by decide +kernel
theorem dX8_restore_11 : decode cX8_restore 11 = .ok (.ldc_w 351, 3) := by decide +kernel
theorem dX8_restore_14 : decode cX8_restore 14 = .ok (.invokespecial 315, 3) := by decide +kernel
theorem dX8_restore_17 : decode cX8_restore 17 = .ok (.athrow, 1) := by decide +kernel
theorem dX8_restore_18 : decode cX8_restore 18 = .ok (.aload_n 0, 1) := by decide +kernel
theorem dX8_restore_19 : decode cX8_restore 19 = .ok (.getfield 12, 3) := by decide +kernel
theorem dX8_restore_22 : decode cX8_restore 22 = .ok (.aload_n 0, 1) := by decide +kernel
theorem dX8_restore_23 : decode cX8_restore 23 = .ok (.getfield 19, 3) := by decide +kernel
theorem dX8_restore_26 : decode cX8_restore 26 = .ok (.invokevirtual 208, 3) := by decide +kernel
theorem dX8_restore_29 : decode cX8_restore 29 = .ok (.aload_n 0, 1) := by decide +kernel
theorem dX8_restore_30 : decode cX8_restore 30 = .ok (.getfield 29, 3) := by decide +kernel
theorem dX8_restore_33 : decode cX8_restore 33 = .ok (.invokevirtual 353, 3) := by decide +kernel
theorem dX8_restore_36 : decode cX8_restore 36 = .ok (.aload_n 0, 1) := by decide +kernel
theorem dX8_restore_37 : decode cX8_restore 37 = .ok (.getfield 12, 3) := by decide +kernel
theorem dX8_restore_40 : decode cX8_restore 40 = .ok (.getfield 113, 3) := by decide +kernel
theorem dX8_restore_43 : decode cX8_restore 43 = .ok (.ireturn, 1) := by decide +kernel
theorem dX8_settled_0 : decode cX8_settled 0 = .ok (.iload_n 1, 1) := by decide +kernel
theorem dX8_settled_1 : decode cX8_settled 1 = .ok (.iconst (-1), 1) := by decide +kernel
theorem dX8_settled_2 : decode cX8_settled 2 = .ok (.if_icmp .ne 14, 3) := by decide +kernel
theorem dX8_settled_5 : decode cX8_settled 5 = .ok (.new 137, 3) := by decide +kernel
theorem dX8_settled_8 : decode cX8_settled 8 = .ok (.dup, 1) := by decide +kernel
theorem dX8_settled_9 : decode cX8_settled 9 = .ok (.ldc_w 356, 3) := by decide +kernel
theorem dX8_settled_12 : decode cX8_settled 12 = .ok (.invokespecial 141, 3) := by decide +kernel
theorem dX8_settled_15 : decode cX8_settled 15 = .ok (.athrow, 1) := by decide +kernel
theorem dX8_settled_16 : decode cX8_settled 16 = .ok (.iload_n 1, 1) := by decide +kernel
theorem dX8_settled_17 : decode cX8_settled 17 = .ok (.bipush (-2), 2) := by decide +kernel
theorem dX8_settled_19 : decode cX8_settled 19 = .ok (.if_icmp .ne 14, 3) := by decide +kernel
theorem dX8_settled_22 : decode cX8_settled 22 = .ok (.new 150, 3) := by decide +kernel
theorem dX8_settled_25 : decode cX8_settled 25 = .ok (.dup, 1) := by decide +kernel
theorem dX8_settled_26 : decode cX8_settled 26 = .ok (.ldc_w 358, 3) := by decide +kernel
theorem dX8_settled_29 : decode cX8_settled 29 = .ok (.invokespecial 154, 3) := by decide +kernel
theorem dX8_settled_32 : decode cX8_settled 32 = .ok (.athrow, 1) := by decide +kernel
theorem dX8_settled_33 : decode cX8_settled 33 = .ok (.iload_n 1, 1) := by decide +kernel
theorem dX8_settled_34 : decode cX8_settled 34 = .ok (.bipush (-3), 2) := by decide +kernel
theorem dX8_settled_36 : decode cX8_settled 36 = .ok (.if_icmp .ne 14, 3) := by decide +kernel
theorem dX8_settled_39 : decode cX8_settled 39 = .ok (.new 311, 3) := by decide +kernel
theorem dX8_settled_42 : decode cX8_settled 42 = .ok (.dup, 1) := by decide +kernel
theorem dX8_settled_43 : decode cX8_settled 43 = .ok (.ldc_w 360, 3) := by decide +kernel
theorem dX8_settled_46 : decode cX8_settled 46 = .ok (.invokespecial 315, 3) := by decide +kernel
theorem dX8_settled_49 : decode cX8_settled 49 = .ok (.athrow, 1) := by decide +kernel
theorem dX8_settled_50 : decode cX8_settled 50 = .ok (.iload_n 1, 1) := by decide +kernel
theorem dX8_settled_51 : decode cX8_settled 51 = .ok (.bipush (-4), 2) := by decide +kernel
theorem dX8_settled_53 : decode cX8_settled 53 = .ok (.if_icmp .ne 14, 3) := by decide +kernel
theorem dX8_settled_56 : decode cX8_settled 56 = .ok (.new 362, 3) := by decide +kernel
theorem dX8_settled_59 : decode cX8_settled 59 = .ok (.dup, 1) := by decide +kernel
theorem dX8_settled_60 : decode cX8_settled 60 = .ok (.ldc_w 364, 3) := by decide +kernel
theorem dX8_settled_63 : decode cX8_settled 63 = .ok (.invokespecial 366, 3) := by decide +kernel
theorem dX8_settled_66 : decode cX8_settled 66 = .ok (.athrow, 1) := by decide +kernel
theorem dX8_settled_67 : decode cX8_settled 67 = .ok (.aload_n 0, 1) := by decide +kernel
theorem dX8_settled_68 : decode cX8_settled 68 = .ok (.getfield 29, 3) := by decide +kernel
theorem dX8_settled_71 : decode cX8_settled 71 = .ok (.invokevirtual 338, 3) := by decide +kernel
theorem dX8_settled_74 : decode cX8_settled 74 = .ok (.iload_n 1, 1) := by decide +kernel
theorem dX8_settled_75 : decode cX8_settled 75 = .ok (.ireturn, 1) := by decide +kernel
theorem dX8_presentSection_0 : decode cX8_presentSection 0 = .ok (.aload_n 0, 1) := by decide +kernel
theorem dX8_presentSection_1 : decode cX8_presentSection 1 = .ok (.getfield 12, 3) := by decide +kernel
theorem dX8_presentSection_4 : decode cX8_presentSection 4 = .ok (.iload_n 1, 1) := by decide +kernel
theorem dX8_presentSection_5 : decode cX8_presentSection 5 = .ok (.invokevirtual 367, 3) := by decide +kernel
theorem dX8_presentSection_8 : decode cX8_presentSection 8 = .ok (.ifCond .ne 14, 3) := by decide +kernel
theorem dX8_presentSection_11 : decode cX8_presentSection 11 = .ok (.new 137, 3) := by decide +kernel
theorem dX8_presentSection_14 : decode cX8_presentSection 14 = .ok (.dup, 1) := by decide +kernel
theorem dX8_presentSection_15 : decode cX8_presentSection 15 = .ok (.ldc_w 370, 3) := by decide +kernel
theorem dX8_presentSection_18 : decode cX8_presentSection 18 = .ok (.invokespecial 141, 3) := by decide +kernel
theorem dX8_presentSection_21 : decode cX8_presentSection 21 = .ok (.athrow, 1) := by decide +kernel
theorem dX8_presentSection_22 : decode cX8_presentSection 22 = .ok (.aload_n 0, 1) := by decide +kernel
theorem dX8_presentSection_23 : decode cX8_presentSection 23 = .ok (.getfield 12, 3) := by decide +kernel
theorem dX8_presentSection_26 : decode cX8_presentSection 26 = .ok (.getfield 372, 3) := by decide +kernel
theorem dX8_presentSection_29 : decode cX8_presentSection 29 = .ok (.iload_n 1, 1) := by decide +kernel
theorem dX8_presentSection_30 : decode cX8_presentSection 30 = .ok (.aaload, 1) := by decide +kernel
theorem dX8_presentSection_31 : decode cX8_presentSection 31 = .ok (.areturn, 1) := by decide +kernel
theorem dX8_sectionWithColumn_0 : decode cX8_sectionWithColumn 0 = .ok (.aload_n 0, 1) := by decide +kernel
theorem dX8_sectionWithColumn_1 : decode cX8_sectionWithColumn 1 = .ok (.iload_n 1, 1) := by decide +kernel
theorem dX8_sectionWithColumn_2 : decode cX8_sectionWithColumn 2 = .ok (.invokevirtual 119, 3) := by decide +kernel
theorem dX8_sectionWithColumn_5 : decode cX8_sectionWithColumn 5 = .ok (.astore_n 3, 1) := by decide +kernel
theorem dX8_sectionWithColumn_6 : decode cX8_sectionWithColumn 6 = .ok (.aload_n 3, 1) := by decide +kernel
theorem dX8_sectionWithColumn_7 : decode cX8_sectionWithColumn 7 = .ok (.iload_n 2, 1) := by decide +kernel
theorem dX8_sectionWithColumn_8 : decode cX8_sectionWithColumn 8 = .ok (.invokevirtual 376, 3) := by decide +kernel
theorem dX8_sectionWithColumn_11 : decode cX8_sectionWithColumn 11 = .ok (.ifCond .ne 14, 3) := by decide +kernel
theorem dX8_sectionWithColumn_14 : decode cX8_sectionWithColumn 14 = .ok (.new 137, 3) := by decide +kernel
theorem dX8_sectionWithColumn_17 : decode cX8_sectionWithColumn 17 = .ok (.dup, 1) := by decide +kernel
theorem dX8_sectionWithColumn_18 : decode cX8_sectionWithColumn 18 = .ok (.ldc_w 379, 3) := by decide +kernel
theorem dX8_sectionWithColumn_21 : decode cX8_sectionWithColumn 21 = .ok (.invokespecial 141, 3) := by decide +kernel
theorem dX8_sectionWithColumn_24 : decode cX8_sectionWithColumn 24 = .ok (.athrow, 1) := by decide +kernel
theorem dX8_sectionWithColumn_25 : decode cX8_sectionWithColumn 25 = .ok (.aload_n 3, 1) := by decide +kernel
theorem dX8_sectionWithColumn_26 : decode cX8_sectionWithColumn 26 = .ok (.areturn, 1) := by decide +kernel
theorem dX8_isPeriod_0 : decode cX8_isPeriod 0 = .ok (.iconst 0, 1) := by decide +kernel
theorem dX8_isPeriod_1 : decode cX8_isPeriod 1 = .ok (.istore_n 2, 1) := by decide +kernel
theorem dX8_isPeriod_2 : decode cX8_isPeriod 2 = .ok (.iload_n 2, 1) := by decide +kernel
theorem dX8_isPeriod_3 : decode cX8_isPeriod 3 = .ok (.aload_n 0, 1) := by decide +kernel
theorem dX8_isPeriod_4 : decode cX8_isPeriod 4 = .ok (.getfield 12, 3) := by decide +kernel
theorem dX8_isPeriod_7 : decode cX8_isPeriod 7 = .ok (.getfield 113, 3) := by decide +kernel
theorem dX8_isPeriod_10 : decode cX8_isPeriod 10 = .ok (.if_icmp .ge 27, 3) := by decide +kernel
theorem dX8_isPeriod_13 : decode cX8_isPeriod 13 = .ok (.aload_n 0, 1) := by decide +kernel
theorem dX8_isPeriod_14 : decode cX8_isPeriod 14 = .ok (.iload_n 2, 1) := by decide +kernel
theorem dX8_isPeriod_15 : decode cX8_isPeriod 15 = .ok (.invokevirtual 200, 3) := by decide +kernel
theorem dX8_isPeriod_18 : decode cX8_isPeriod 18 = .ok (.istore_n 3, 1) := by decide +kernel
theorem dX8_isPeriod_19 : decode cX8_isPeriod 19 = .ok (.iload_n 3, 1) := by decide +kernel
theorem dX8_isPeriod_20 : decode cX8_isPeriod 20 = .ok (.ifCond .eq 9, 3) := by decide +kernel
theorem dX8_isPeriod_23 : decode cX8_isPeriod 23 = .ok (.iload_n 1, 1) := by decide +kernel
theorem dX8_isPeriod_24 : decode cX8_isPeriod 24 = .ok (.iload_n 3, 1) := by decide +kernel
theorem dX8_isPeriod_25 : decode cX8_isPeriod 25 = .ok (.irem, 1) := by decide +kernel
theorem dX8_isPeriod_26 : decode cX8_isPeriod 26 = .ok (.ifCond .eq 5, 3) := by decide +kernel
theorem dX8_isPeriod_29 : decode cX8_isPeriod 29 = .ok (.iconst 0, 1) := by decide +kernel
theorem dX8_isPeriod_30 : decode cX8_isPeriod 30 = .ok (.ireturn, 1) := by decide +kernel
theorem dX8_isPeriod_31 : decode cX8_isPeriod 31 = .ok (.iinc 2 1, 3) := by decide +kernel
theorem dX8_isPeriod_34 : decode cX8_isPeriod 34 = .ok (.goto (-32), 3) := by decide +kernel
theorem dX8_isPeriod_37 : decode cX8_isPeriod 37 = .ok (.iconst 1, 1) := by decide +kernel
theorem dX8_isPeriod_38 : decode cX8_isPeriod 38 = .ok (.ireturn, 1) := by decide +kernel
theorem dX8_soundsVolume_0 : decode cX8_soundsVolume 0 = .ok (.lconst 0, 1) := by decide +kernel
theorem dX8_soundsVolume_1 : decode cX8_soundsVolume 1 = .ok (.lstore_n 2, 1) := by decide +kernel
theorem dX8_soundsVolume_2 : decode cX8_soundsVolume 2 = .ok (.iconst 1, 1) := by decide +kernel
theorem dX8_soundsVolume_3 : decode cX8_soundsVolume 3 = .ok (.istore 4, 2) := by decide +kernel
theorem dX8_soundsVolume_5 : decode cX8_soundsVolume 5 = .ok (.iload 4, 2) := by decide +kernel
theorem dX8_soundsVolume_7 : decode cX8_soundsVolume 7 = .ok (.bipush 9, 2) := by decide +kernel
theorem dX8_soundsVolume_9 : decode cX8_soundsVolume 9 = .ok (.if_icmp .gt 31, 3) := by decide +kernel
theorem dX8_soundsVolume_12 : decode cX8_soundsVolume 12 = .ok (.lload_n 2, 1) := by decide +kernel
theorem dX8_soundsVolume_13 : decode cX8_soundsVolume 13 = .ok (.aload_n 0, 1) := by decide +kernel
theorem dX8_soundsVolume_14 : decode cX8_soundsVolume 14 = .ok (.getfield 12, 3) := by decide +kernel
theorem dX8_soundsVolume_17 : decode cX8_soundsVolume 17 = .ok (.iload_n 1, 1) := by decide +kernel
theorem dX8_soundsVolume_18 : decode cX8_soundsVolume 18 = .ok (.iload 4, 2) := by decide +kernel
theorem dX8_soundsVolume_20 : decode cX8_soundsVolume 20 = .ok (.invokevirtual 235, 3) := by decide +kernel
theorem dX8_soundsVolume_23 : decode cX8_soundsVolume 23 = .ok (.i2l, 1) := by decide +kernel
theorem dX8_soundsVolume_24 : decode cX8_soundsVolume 24 = .ok (.iload_n 1, 1) := by decide +kernel
theorem dX8_soundsVolume_25 : decode cX8_soundsVolume 25 = .ok (.iload 4, 2) := by decide +kernel
theorem dX8_soundsVolume_27 : decode cX8_soundsVolume 27 = .ok (.invokestatic 180, 3) := by decide +kernel
theorem dX8_soundsVolume_30 : decode cX8_soundsVolume 30 = .ok (.i2l, 1) := by decide +kernel
theorem dX8_soundsVolume_31 : decode cX8_soundsVolume 31 = .ok (.lmul, 1) := by decide +kernel
theorem dX8_soundsVolume_32 : decode cX8_soundsVolume 32 = .ok (.ladd, 1) := by decide +kernel
theorem dX8_soundsVolume_33 : decode cX8_soundsVolume 33 = .ok (.lstore_n 2, 1) := by decide +kernel
theorem dX8_soundsVolume_34 : decode cX8_soundsVolume 34 = .ok (.iinc 4 1, 3) := by decide +kernel
theorem dX8_soundsVolume_37 : decode cX8_soundsVolume 37 = .ok (.goto (-32), 3) := by decide +kernel
theorem dX8_soundsVolume_40 : decode cX8_soundsVolume 40 = .ok (.lload_n 2, 1) := by decide +kernel
theorem dX8_soundsVolume_41 : decode cX8_soundsVolume 41 = .ok (.lreturn, 1) := by decide +kernel
theorem dX8_columnVolumesAgree_0 : decode cX8_columnVolumesAgree 0 = .ok (.iconst 0, 1) := by decide +kernel
theorem dX8_columnVolumesAgree_1 : decode cX8_columnVolumesAgree 1 = .ok (.istore_n 1, 1) := by decide +kernel
theorem dX8_columnVolumesAgree_2 : decode cX8_columnVolumesAgree 2 = .ok (.iload_n 1, 1) := by decide +kernel
theorem dX8_columnVolumesAgree_3 : decode cX8_columnVolumesAgree 3 = .ok (.aload_n 0, 1) := by decide +kernel
theorem dX8_columnVolumesAgree_4 : decode cX8_columnVolumesAgree 4 = .ok (.getfield 12, 3) := by decide +kernel
theorem dX8_columnVolumesAgree_7 : decode cX8_columnVolumesAgree 7 = .ok (.getfield 113, 3) := by decide +kernel
theorem dX8_columnVolumesAgree_10 : decode cX8_columnVolumesAgree 10 = .ok (.if_icmp .ge 43, 3) := by decide +kernel
theorem dX8_columnVolumesAgree_13 : decode cX8_columnVolumesAgree 13 = .ok (.iconst 0, 1) := by decide +kernel
theorem dX8_columnVolumesAgree_14 : decode cX8_columnVolumesAgree 14 = .ok (.istore_n 2, 1) := by decide +kernel
theorem dX8_columnVolumesAgree_15 : decode cX8_columnVolumesAgree 15 = .ok (.iload_n 2, 1) := by decide +kernel
theorem dX8_columnVolumesAgree_16 : decode cX8_columnVolumesAgree 16 = .ok (.aload_n 0, 1) := by decide +kernel
theorem dX8_columnVolumesAgree_17 : decode cX8_columnVolumesAgree 17 = .ok (.iload_n 1, 1) := by decide +kernel
theorem dX8_columnVolumesAgree_18 : decode cX8_columnVolumesAgree 18 = .ok (.invokevirtual 200, 3) := by decide +kernel
theorem dX8_columnVolumesAgree_21 : decode cX8_columnVolumesAgree 21 = .ok (.if_icmp .ge 26, 3) := by decide +kernel
theorem dX8_columnVolumesAgree_24 : decode cX8_columnVolumesAgree 24 = .ok (.aload_n 0, 1) := by decide +kernel
theorem dX8_columnVolumesAgree_25 : decode cX8_columnVolumesAgree 25 = .ok (.iload_n 1, 1) := by decide +kernel
theorem dX8_columnVolumesAgree_26 : decode cX8_columnVolumesAgree 26 = .ok (.iload_n 2, 1) := by decide +kernel
theorem dX8_columnVolumesAgree_27 : decode cX8_columnVolumesAgree 27 = .ok (.invokevirtual 381, 3) := by decide +kernel
theorem dX8_columnVolumesAgree_30 : decode cX8_columnVolumesAgree 30 = .ok (.aload_n 0, 1) := by decide +kernel
theorem dX8_columnVolumesAgree_31 : decode cX8_columnVolumesAgree 31 = .ok (.iload_n 1, 1) := by decide +kernel
theorem dX8_columnVolumesAgree_32 : decode cX8_columnVolumesAgree 32 = .ok (.iload_n 2, 1) := by decide +kernel
theorem dX8_columnVolumesAgree_33 : decode cX8_columnVolumesAgree 33 = .ok (.invokevirtual 384, 3) := by decide +kernel
theorem dX8_columnVolumesAgree_36 : decode cX8_columnVolumesAgree 36 = .ok (.if_icmp .eq 5, 3) := by decide +kernel
theorem dX8_columnVolumesAgree_39 : decode cX8_columnVolumesAgree 39 = .ok (.iconst 0, 1) := by decide +kernel
theorem dX8_columnVolumesAgree_40 : decode cX8_columnVolumesAgree 40 = .ok (.ireturn, 1) := by decide +kernel
theorem dX8_columnVolumesAgree_41 : decode cX8_columnVolumesAgree 41 = .ok (.iinc 2 1, 3) := by decide +kernel
theorem dX8_columnVolumesAgree_44 : decode cX8_columnVolumesAgree 44 = .ok (.goto (-29), 3) := by decide +kernel
theorem dX8_columnVolumesAgree_47 : decode cX8_columnVolumesAgree 47 = .ok (.iinc 1 1, 3) := by decide +kernel
theorem dX8_columnVolumesAgree_50 : decode cX8_columnVolumesAgree 50 = .ok (.goto (-48), 3) := by decide +kernel
theorem dX8_columnVolumesAgree_53 : decode cX8_columnVolumesAgree 53 = .ok (.iconst 1, 1) := by decide +kernel
theorem dX8_columnVolumesAgree_54 : decode cX8_columnVolumesAgree 54 = .ok (.ireturn, 1) := by decide +kernel
theorem dX8_sectionRank_0 : decode cX8_sectionRank 0 = .ok (.iconst 0, 1) := by decide +kernel
theorem dX8_sectionRank_1 : decode cX8_sectionRank 1 = .ok (.istore_n 2, 1) := by decide +kernel
theorem dX8_sectionRank_2 : decode cX8_sectionRank 2 = .ok (.iconst 0, 1) := by decide +kernel
theorem dX8_sectionRank_3 : decode cX8_sectionRank 3 = .ok (.istore_n 3, 1) := by decide +kernel
theorem dX8_sectionRank_4 : decode cX8_sectionRank 4 = .ok (.iload_n 3, 1) := by decide +kernel
theorem dX8_sectionRank_5 : decode cX8_sectionRank 5 = .ok (.aload_n 0, 1) := by decide +kernel
theorem dX8_sectionRank_6 : decode cX8_sectionRank 6 = .ok (.getfield 12, 3) := by decide +kernel
theorem dX8_sectionRank_9 : decode cX8_sectionRank 9 = .ok (.getfield 113, 3) := by decide +kernel
theorem dX8_sectionRank_12 : decode cX8_sectionRank 12 = .ok (.if_icmp .ge 21, 3) := by decide +kernel
theorem dX8_sectionRank_15 : decode cX8_sectionRank 15 = .ok (.aload_n 0, 1) := by decide +kernel
theorem dX8_sectionRank_16 : decode cX8_sectionRank 16 = .ok (.iload_n 3, 1) := by decide +kernel
theorem dX8_sectionRank_17 : decode cX8_sectionRank 17 = .ok (.iload_n 1, 1) := by decide +kernel
theorem dX8_sectionRank_18 : decode cX8_sectionRank 18 = .ok (.invokevirtual 387, 3) := by decide +kernel
theorem dX8_sectionRank_21 : decode cX8_sectionRank 21 = .ok (.ifCond .eq 6, 3) := by decide +kernel
theorem dX8_sectionRank_24 : decode cX8_sectionRank 24 = .ok (.iinc 2 1, 3) := by decide +kernel
theorem dX8_sectionRank_27 : decode cX8_sectionRank 27 = .ok (.iinc 3 1, 3) := by decide +kernel
theorem dX8_sectionRank_30 : decode cX8_sectionRank 30 = .ok (.goto (-26), 3) := by decide +kernel
theorem dX8_sectionRank_33 : decode cX8_sectionRank 33 = .ok (.iload_n 2, 1) := by decide +kernel
theorem dX8_sectionRank_34 : decode cX8_sectionRank 34 = .ok (.ireturn, 1) := by decide +kernel
theorem dX8_precedes_0 : decode cX8_precedes 0 = .ok (.aload_n 0, 1) := by decide +kernel
theorem dX8_precedes_1 : decode cX8_precedes 1 = .ok (.iload_n 1, 1) := by decide +kernel
theorem dX8_precedes_2 : decode cX8_precedes 2 = .ok (.invokevirtual 390, 3) := by decide +kernel
theorem dX8_precedes_5 : decode cX8_precedes 5 = .ok (.aload_n 0, 1) := by decide +kernel
theorem dX8_precedes_6 : decode cX8_precedes 6 = .ok (.iload_n 2, 1) := by decide +kernel
theorem dX8_precedes_7 : decode cX8_precedes 7 = .ok (.invokevirtual 390, 3) := by decide +kernel
theorem dX8_precedes_10 : decode cX8_precedes 10 = .ok (.if_icmp .eq 22, 3) := by decide +kernel
theorem dX8_precedes_13 : decode cX8_precedes 13 = .ok (.aload_n 0, 1) := by decide +kernel
theorem dX8_precedes_14 : decode cX8_precedes 14 = .ok (.iload_n 1, 1) := by decide +kernel
theorem dX8_precedes_15 : decode cX8_precedes 15 = .ok (.invokevirtual 390, 3) := by decide +kernel
theorem dX8_precedes_18 : decode cX8_precedes 18 = .ok (.aload_n 0, 1) := by decide +kernel
theorem dX8_precedes_19 : decode cX8_precedes 19 = .ok (.iload_n 2, 1) := by decide +kernel
theorem dX8_precedes_20 : decode cX8_precedes 20 = .ok (.invokevirtual 390, 3) := by decide +kernel
theorem dX8_precedes_23 : decode cX8_precedes 23 = .ok (.if_icmp .le 7, 3) := by decide +kernel
theorem dX8_precedes_26 : decode cX8_precedes 26 = .ok (.iconst 1, 1) := by decide +kernel
theorem dX8_precedes_27 : decode cX8_precedes 27 = .ok (.goto 4, 3) := by decide +kernel
theorem dX8_precedes_30 : decode cX8_precedes 30 = .ok (.iconst 0, 1) := by decide +kernel
theorem dX8_precedes_31 : decode cX8_precedes 31 = .ok (.ireturn, 1) := by decide +kernel
theorem dX8_precedes_32 : decode cX8_precedes 32 = .ok (.aload_n 0, 1) := by decide +kernel
theorem dX8_precedes_33 : decode cX8_precedes 33 = .ok (.iload_n 1, 1) := by decide +kernel
theorem dX8_precedes_34 : decode cX8_precedes 34 = .ok (.invokevirtual 393, 3) := by decide +kernel
theorem dX8_precedes_37 : decode cX8_precedes 37 = .ok (.aload_n 0, 1) := by decide +kernel
theorem dX8_precedes_38 : decode cX8_precedes 38 = .ok (.iload_n 2, 1) := by decide +kernel
theorem dX8_precedes_39 : decode cX8_precedes 39 = .ok (.invokevirtual 393, 3) := by decide +kernel
theorem dX8_precedes_42 : decode cX8_precedes 42 = .ok (.if_icmp .eq 22, 3) := by decide +kernel
theorem dX8_precedes_45 : decode cX8_precedes 45 = .ok (.aload_n 0, 1) := by decide +kernel
theorem dX8_precedes_46 : decode cX8_precedes 46 = .ok (.iload_n 1, 1) := by decide +kernel
theorem dX8_precedes_47 : decode cX8_precedes 47 = .ok (.invokevirtual 393, 3) := by decide +kernel
theorem dX8_precedes_50 : decode cX8_precedes 50 = .ok (.aload_n 0, 1) := by decide +kernel
theorem dX8_precedes_51 : decode cX8_precedes 51 = .ok (.iload_n 2, 1) := by decide +kernel
theorem dX8_precedes_52 : decode cX8_precedes 52 = .ok (.invokevirtual 393, 3) := by decide +kernel
theorem dX8_precedes_55 : decode cX8_precedes 55 = .ok (.if_icmp .ge 7, 3) := by decide +kernel
theorem dX8_precedes_58 : decode cX8_precedes 58 = .ok (.iconst 1, 1) := by decide +kernel
theorem dX8_precedes_59 : decode cX8_precedes 59 = .ok (.goto 4, 3) := by decide +kernel
theorem dX8_precedes_62 : decode cX8_precedes 62 = .ok (.iconst 0, 1) := by decide +kernel
theorem dX8_precedes_63 : decode cX8_precedes 63 = .ok (.ireturn, 1) := by decide +kernel
theorem dX8_precedes_64 : decode cX8_precedes 64 = .ok (.iload_n 1, 1) := by decide +kernel
theorem dX8_precedes_65 : decode cX8_precedes 65 = .ok (.iload_n 2, 1) := by decide +kernel
theorem dX8_precedes_66 : decode cX8_precedes 66 = .ok (.if_icmp .ge 7, 3) := by decide +kernel
theorem dX8_precedes_69 : decode cX8_precedes 69 = .ok (.iconst 1, 1) := by decide +kernel
theorem dX8_precedes_70 : decode cX8_precedes 70 = .ok (.goto 4, 3) := by decide +kernel
theorem dX8_precedes_73 : decode cX8_precedes 73 = .ok (.iconst 0, 1) := by decide +kernel
theorem dX8_precedes_74 : decode cX8_precedes 74 = .ok (.ireturn, 1) := by decide +kernel
theorem dX8_noteRank_0 : decode cX8_noteRank 0 = .ok (.aload_n 0, 1) := by decide +kernel
theorem dX8_noteRank_1 : decode cX8_noteRank 1 = .ok (.getfield 12, 3) := by decide +kernel
theorem dX8_noteRank_4 : decode cX8_noteRank 4 = .ok (.iload_n 1, 1) := by decide +kernel
theorem dX8_noteRank_5 : decode cX8_noteRank 5 = .ok (.invokevirtual 395, 3) := by decide +kernel
theorem dX8_noteRank_8 : decode cX8_noteRank 8 = .ok (.istore_n 2, 1) := by decide +kernel
theorem dX8_noteRank_9 : decode cX8_noteRank 9 = .ok (.iconst 0, 1) := by decide +kernel
theorem dX8_noteRank_10 : decode cX8_noteRank 10 = .ok (.istore_n 3, 1) := by decide +kernel
theorem dX8_noteRank_11 : decode cX8_noteRank 11 = .ok (.iconst 1, 1) := by decide +kernel
theorem dX8_noteRank_12 : decode cX8_noteRank 12 = .ok (.istore 4, 2) := by decide +kernel
theorem dX8_noteRank_14 : decode cX8_noteRank 14 = .ok (.iload 4, 2) := by decide +kernel
theorem dX8_noteRank_16 : decode cX8_noteRank 16 = .ok (.bipush 9, 2) := by decide +kernel
theorem dX8_noteRank_18 : decode cX8_noteRank 18 = .ok (.if_icmp .gt 41, 3) := by decide +kernel
theorem dX8_noteRank_21 : decode cX8_noteRank 21 = .ok (.aload_n 0, 1) := by decide +kernel
theorem dX8_noteRank_22 : decode cX8_noteRank 22 = .ok (.getfield 12, 3) := by decide +kernel
theorem dX8_noteRank_25 : decode cX8_noteRank 25 = .ok (.iload 4, 2) := by decide +kernel
theorem dX8_noteRank_27 : decode cX8_noteRank 27 = .ok (.invokevirtual 395, 3) := by decide +kernel
theorem dX8_noteRank_30 : decode cX8_noteRank 30 = .ok (.istore 5, 2) := by decide +kernel
theorem dX8_noteRank_32 : decode cX8_noteRank 32 = .ok (.iload 5, 2) := by decide +kernel
theorem dX8_noteRank_34 : decode cX8_noteRank 34 = .ok (.iload_n 2, 1) := by decide +kernel
theorem dX8_noteRank_35 : decode cX8_noteRank 35 = .ok (.if_icmp .gt 15, 3) := by decide +kernel
theorem dX8_noteRank_38 : decode cX8_noteRank 38 = .ok (.iload 5, 2) := by decide +kernel
theorem dX8_noteRank_40 : decode cX8_noteRank 40 = .ok (.iload_n 2, 1) := by decide +kernel
theorem dX8_noteRank_41 : decode cX8_noteRank 41 = .ok (.if_icmp .ne 12, 3) := by decide +kernel
theorem dX8_noteRank_44 : decode cX8_noteRank 44 = .ok (.iload 4, 2) := by decide +kernel
theorem dX8_noteRank_46 : decode cX8_noteRank 46 = .ok (.iload_n 1, 1) := by decide +kernel
theorem dX8_noteRank_47 : decode cX8_noteRank 47 = .ok (.if_icmp .le 6, 3) := by decide +kernel
theorem dX8_noteRank_50 : decode cX8_noteRank 50 = .ok (.iinc 3 1, 3) := by decide +kernel
theorem dX8_noteRank_53 : decode cX8_noteRank 53 = .ok (.iinc 4 1, 3) := by decide +kernel
theorem dX8_noteRank_56 : decode cX8_noteRank 56 = .ok (.goto (-42), 3) := by decide +kernel
theorem dX8_noteRank_59 : decode cX8_noteRank 59 = .ok (.iload_n 3, 1) := by decide +kernel
theorem dX8_noteRank_60 : decode cX8_noteRank 60 = .ok (.ireturn, 1) := by decide +kernel
theorem dX8_perform_0 : decode cX8_perform 0 = .ok (.aload_n 1, 1) := by decide +kernel
theorem dX8_perform_1 : decode cX8_perform 1 = .ok (.iconst 0, 1) := by decide +kernel
theorem dX8_perform_2 : decode cX8_perform 2 = .ok (.invokevirtual 398, 3) := by decide +kernel
theorem dX8_perform_5 : decode cX8_perform 5 = .ok (.istore_n 2, 1) := by decide +kernel
theorem dX8_perform_6 : decode cX8_perform 6 = .ok (.aload_n 1, 1) := by decide +kernel
theorem dX8_perform_7 : decode cX8_perform 7 = .ok (.iconst 1, 1) := by decide +kernel
theorem dX8_perform_8 : decode cX8_perform 8 = .ok (.invokevirtual 398, 3) := by decide +kernel
theorem dX8_perform_11 : decode cX8_perform 11 = .ok (.istore_n 3, 1) := by decide +kernel
theorem dX8_perform_12 : decode cX8_perform 12 = .ok (.aload_n 1, 1) := by decide +kernel
theorem dX8_perform_13 : decode cX8_perform 13 = .ok (.iconst 2, 1) := by decide +kernel
theorem dX8_perform_14 : decode cX8_perform 14 = .ok (.invokevirtual 398, 3) := by decide +kernel
theorem dX8_perform_17 : decode cX8_perform 17 = .ok (.istore 4, 2) := by decide +kernel
theorem dX8_perform_19 : decode cX8_perform 19 = .ok (.getstatic 403, 3) := by decide +kernel
theorem dX8_perform_22 : decode cX8_perform 22 = .ok (.aload_n 1, 1) := by decide +kernel
theorem dX8_perform_23 : decode cX8_perform 23 = .ok (.getfield 409, 3) := by decide +kernel
theorem dX8_perform_26 : decode cX8_perform 26 = .ok (.invokevirtual 413, 3) := by decide +kernel
theorem dX8_perform_29 : decode cX8_perform 29 = .ok (.iaload, 1) := by decide +kernel
theorem dX8_perform_30 : decode cX8_perform 30 = .ok (.tableswitch 177 1 10 #[54, 67, 76, 93, 113, 122, 131, 144, 153, 162], 54) := by decide +kernel
theorem dX8_perform_84 : decode cX8_perform 84 = .ok (.aload_n 0, 1) := by decide +kernel
theorem dX8_perform_85 : decode cX8_perform 85 = .ok (.getfield 12, 3) := by decide +kernel
theorem dX8_perform_88 : decode cX8_perform 88 = .ok (.iload_n 2, 1) := by decide +kernel
theorem dX8_perform_89 : decode cX8_perform 89 = .ok (.i2c, 1) := by decide +kernel
theorem dX8_perform_90 : decode cX8_perform 90 = .ok (.iload_n 3, 1) := by decide +kernel
theorem dX8_perform_91 : decode cX8_perform 91 = .ok (.iload 4, 2) := by decide +kernel
theorem dX8_perform_93 : decode cX8_perform 93 = .ok (.invokevirtual 65, 3) := by decide +kernel
theorem dX8_perform_96 : decode cX8_perform 96 = .ok (.ireturn, 1) := by decide +kernel
theorem dX8_perform_97 : decode cX8_perform 97 = .ok (.aload_n 0, 1) := by decide +kernel
theorem dX8_perform_98 : decode cX8_perform 98 = .ok (.getfield 12, 3) := by decide +kernel
theorem dX8_perform_101 : decode cX8_perform 101 = .ok (.iload_n 2, 1) := by decide +kernel
theorem dX8_perform_102 : decode cX8_perform 102 = .ok (.invokevirtual 73, 3) := by decide +kernel
theorem dX8_perform_105 : decode cX8_perform 105 = .ok (.ireturn, 1) := by decide +kernel
theorem dX8_perform_106 : decode cX8_perform 106 = .ok (.aload_n 0, 1) := by decide +kernel
theorem dX8_perform_107 : decode cX8_perform 107 = .ok (.getfield 12, 3) := by decide +kernel
theorem dX8_perform_110 : decode cX8_perform 110 = .ok (.iload_n 2, 1) := by decide +kernel
theorem dX8_perform_111 : decode cX8_perform 111 = .ok (.iload_n 3, 1) := by decide +kernel
theorem dX8_perform_112 : decode cX8_perform 112 = .ok (.iload 4, 2) := by decide +kernel
theorem dX8_perform_114 : decode cX8_perform 114 = .ok (.aload_n 1, 1) := by decide +kernel
theorem dX8_perform_115 : decode cX8_perform 115 = .ok (.iconst 3, 1) := by decide +kernel
theorem dX8_perform_116 : decode cX8_perform 116 = .ok (.invokevirtual 398, 3) := by decide +kernel
theorem dX8_perform_119 : decode cX8_perform 119 = .ok (.invokevirtual 76, 3) := by decide +kernel
theorem dX8_perform_122 : decode cX8_perform 122 = .ok (.ireturn, 1) := by decide +kernel
theorem dX8_perform_123 : decode cX8_perform 123 = .ok (.aload_n 0, 1) := by decide +kernel
theorem dX8_perform_124 : decode cX8_perform 124 = .ok (.getfield 12, 3) := by decide +kernel
theorem dX8_perform_127 : decode cX8_perform 127 = .ok (.iload_n 2, 1) := by decide +kernel
theorem dX8_perform_128 : decode cX8_perform 128 = .ok (.iload_n 3, 1) := by decide +kernel
theorem dX8_perform_129 : decode cX8_perform 129 = .ok (.iload 4, 2) := by decide +kernel
theorem dX8_perform_131 : decode cX8_perform 131 = .ok (.ifCond .le 7, 3) := by decide +kernel
theorem dX8_perform_134 : decode cX8_perform 134 = .ok (.iconst 1, 1) := by decide +kernel
theorem dX8_perform_135 : decode cX8_perform 135 = .ok (.goto 4, 3) := by decide +kernel
theorem dX8_perform_138 : decode cX8_perform 138 = .ok (.iconst 0, 1) := by decide +kernel
theorem dX8_perform_139 : decode cX8_perform 139 = .ok (.invokevirtual 80, 3) := by decide +kernel
theorem dX8_perform_142 : decode cX8_perform 142 = .ok (.ireturn, 1) := by decide +kernel
theorem dX8_perform_143 : decode cX8_perform 143 = .ok (.aload_n 0, 1) := by decide +kernel
theorem dX8_perform_144 : decode cX8_perform 144 = .ok (.getfield 12, 3) := by decide +kernel
theorem dX8_perform_147 : decode cX8_perform 147 = .ok (.iload_n 2, 1) := by decide +kernel
theorem dX8_perform_148 : decode cX8_perform 148 = .ok (.invokevirtual 84, 3) := by decide +kernel
theorem dX8_perform_151 : decode cX8_perform 151 = .ok (.ireturn, 1) := by decide +kernel
theorem dX8_perform_152 : decode cX8_perform 152 = .ok (.aload_n 0, 1) := by decide +kernel
theorem dX8_perform_153 : decode cX8_perform 153 = .ok (.getfield 12, 3) := by decide +kernel
theorem dX8_perform_156 : decode cX8_perform 156 = .ok (.iload_n 2, 1) := by decide +kernel
theorem dX8_perform_157 : decode cX8_perform 157 = .ok (.invokevirtual 87, 3) := by decide +kernel
theorem dX8_perform_160 : decode cX8_perform 160 = .ok (.ireturn, 1) := by decide +kernel
theorem dX8_perform_161 : decode cX8_perform 161 = .ok (.aload_n 0, 1) := by decide +kernel
theorem dX8_perform_162 : decode cX8_perform 162 = .ok (.getfield 12, 3) := by decide +kernel
theorem dX8_perform_165 : decode cX8_perform 165 = .ok (.iload_n 2, 1) := by decide +kernel
theorem dX8_perform_166 : decode cX8_perform 166 = .ok (.iload_n 3, 1) := by decide +kernel
theorem dX8_perform_167 : decode cX8_perform 167 = .ok (.iload 4, 2) := by decide +kernel
theorem dX8_perform_169 : decode cX8_perform 169 = .ok (.imul, 1) := by decide +kernel
theorem dX8_perform_170 : decode cX8_perform 170 = .ok (.invokevirtual 90, 3) := by decide +kernel
theorem dX8_perform_173 : decode cX8_perform 173 = .ok (.ireturn, 1) := by decide +kernel
theorem dX8_perform_174 : decode cX8_perform 174 = .ok (.aload_n 0, 1) := by decide +kernel
theorem dX8_perform_175 : decode cX8_perform 175 = .ok (.getfield 12, 3) := by decide +kernel
theorem dX8_perform_178 : decode cX8_perform 178 = .ok (.iload_n 2, 1) := by decide +kernel
theorem dX8_perform_179 : decode cX8_perform 179 = .ok (.invokevirtual 94, 3) := by decide +kernel
theorem dX8_perform_182 : decode cX8_perform 182 = .ok (.ireturn, 1) := by decide +kernel
theorem dX8_perform_183 : decode cX8_perform 183 = .ok (.aload_n 0, 1) := by decide +kernel
theorem dX8_perform_184 : decode cX8_perform 184 = .ok (.getfield 12, 3) := by decide +kernel
theorem dX8_perform_187 : decode cX8_perform 187 = .ok (.iload_n 2, 1) := by decide +kernel
theorem dX8_perform_188 : decode cX8_perform 188 = .ok (.invokevirtual 97, 3) := by decide +kernel
theorem dX8_perform_191 : decode cX8_perform 191 = .ok (.ireturn, 1) := by decide +kernel
theorem dX8_perform_192 : decode cX8_perform 192 = .ok (.aload_n 0, 1) := by decide +kernel
theorem dX8_perform_193 : decode cX8_perform 193 = .ok (.getfield 12, 3) := by decide +kernel
theorem dX8_perform_196 : decode cX8_perform 196 = .ok (.aload_n 0, 1) := by decide +kernel
theorem dX8_perform_197 : decode cX8_perform 197 = .ok (.getfield 12, 3) := by decide +kernel
theorem dX8_perform_200 : decode cX8_perform 200 = .ok (.getfield 100, 3) := by decide +kernel
theorem dX8_perform_203 : decode cX8_perform 203 = .ok (.invokevirtual 103, 3) := by decide +kernel
theorem dX8_perform_206 : decode cX8_perform 206 = .ok (.ireturn, 1) := by decide +kernel
theorem dX8_perform_207 : decode cX8_perform 207 = .ok (.iload_n 2, 1) := by decide +kernel
theorem dX8_perform_208 : decode cX8_perform 208 = .ok (.invokestatic 106, 3) := by decide +kernel
theorem dX8_perform_211 : decode cX8_perform 211 = .ok (.ifCond .eq 14, 3) := by decide +kernel
theorem dX8_perform_214 : decode cX8_perform 214 = .ok (.aload_n 0, 1) := by decide +kernel
theorem dX8_perform_215 : decode cX8_perform 215 = .ok (.getfield 12, 3) := by decide +kernel
theorem dX8_perform_218 : decode cX8_perform 218 = .ok (.iload_n 2, 1) := by decide +kernel
theorem dX8_perform_219 : decode cX8_perform 219 = .ok (.invokevirtual 103, 3) := by decide +kernel
theorem dX8_perform_222 : decode cX8_perform 222 = .ok (.goto 5, 3) := by decide +kernel
theorem dX8_perform_225 : decode cX8_perform 225 = .ok (.bipush (-2), 2) := by decide +kernel
theorem dX8_perform_227 : decode cX8_perform 227 = .ok (.ireturn, 1) := by decide +kernel
theorem dX8_kindIndex_0 : decode cX8_kindIndex 0 = .ok (.iload_n 0, 1) := by decide +kernel
theorem dX8_kindIndex_1 : decode cX8_kindIndex 1 = .ok (.lookupswitch 41 #[(100, 39), (115, 35), (119, 37)], 35) := by decide +kernel
theorem dX8_kindIndex_36 : decode cX8_kindIndex 36 = .ok (.iconst 0, 1) := by decide +kernel
theorem dX8_kindIndex_37 : decode cX8_kindIndex 37 = .ok (.ireturn, 1) := by decide +kernel
theorem dX8_kindIndex_38 : decode cX8_kindIndex 38 = .ok (.iconst 1, 1) := by decide +kernel
theorem dX8_kindIndex_39 : decode cX8_kindIndex 39 = .ok (.ireturn, 1) := by decide +kernel
theorem dX8_kindIndex_40 : decode cX8_kindIndex 40 = .ok (.iconst 2, 1) := by decide +kernel
theorem dX8_kindIndex_41 : decode cX8_kindIndex 41 = .ok (.ireturn, 1) := by decide +kernel
theorem dX8_kindIndex_42 : decode cX8_kindIndex 42 = .ok (.iconst (-1), 1) := by decide +kernel
theorem dX8_kindIndex_43 : decode cX8_kindIndex 43 = .ok (.ireturn, 1) := by decide +kernel
theorem dX8_volumeOf_0 : decode cX8_volumeOf 0 = .ok (.iload_n 1, 1) := by decide +kernel
theorem dX8_volumeOf_1 : decode cX8_volumeOf 1 = .ok (.ifCond .eq 9, 3) := by decide +kernel
theorem dX8_volumeOf_4 : decode cX8_volumeOf 4 = .ok (.iload_n 0, 1) := by decide +kernel
theorem dX8_volumeOf_5 : decode cX8_volumeOf 5 = .ok (.bipush 115, 2) := by decide +kernel
theorem dX8_volumeOf_7 : decode cX8_volumeOf 7 = .ok (.if_icmp .ne 5, 3) := by decide +kernel
theorem dX8_volumeOf_10 : decode cX8_volumeOf 10 = .ok (.iload_n 1, 1) := by decide +kernel
theorem dX8_volumeOf_11 : decode cX8_volumeOf 11 = .ok (.ireturn, 1) := by decide +kernel
theorem dX8_volumeOf_12 : decode cX8_volumeOf 12 = .ok (.iload_n 0, 1) := by decide +kernel
theorem dX8_volumeOf_13 : decode cX8_volumeOf 13 = .ok (.bipush 119, 2) := by decide +kernel
theorem dX8_volumeOf_15 : decode cX8_volumeOf 15 = .ok (.if_icmp .ne 18, 3) := by decide +kernel
theorem dX8_volumeOf_18 : decode cX8_volumeOf 18 = .ok (.iload_n 1, 1) := by decide +kernel
theorem dX8_volumeOf_19 : decode cX8_volumeOf 19 = .ok (.bipush 6, 2) := by decide +kernel
theorem dX8_volumeOf_21 : decode cX8_volumeOf 21 = .ok (.if_icmp .le 8, 3) := by decide +kernel
theorem dX8_volumeOf_24 : decode cX8_volumeOf 24 = .ok (.bipush 12, 2) := by decide +kernel
theorem dX8_volumeOf_26 : decode cX8_volumeOf 26 = .ok (.goto 6, 3) := by decide +kernel
theorem dX8_volumeOf_29 : decode cX8_volumeOf 29 = .ok (.iconst 2, 1) := by decide +kernel
theorem dX8_volumeOf_30 : decode cX8_volumeOf 30 = .ok (.iload_n 1, 1) := by decide +kernel
theorem dX8_volumeOf_31 : decode cX8_volumeOf 31 = .ok (.imul, 1) := by decide +kernel
theorem dX8_volumeOf_32 : decode cX8_volumeOf 32 = .ok (.ireturn, 1) := by decide +kernel
theorem dX8_volumeOf_33 : decode cX8_volumeOf 33 = .ok (.iload_n 1, 1) := by decide +kernel
theorem dX8_volumeOf_34 : decode cX8_volumeOf 34 = .ok (.iconst 2, 1) := by decide +kernel
theorem dX8_volumeOf_35 : decode cX8_volumeOf 35 = .ok (.irem, 1) := by decide +kernel
theorem dX8_volumeOf_36 : decode cX8_volumeOf 36 = .ok (.ifCond .ne 7, 3) := by decide +kernel
theorem dX8_volumeOf_39 : decode cX8_volumeOf 39 = .ok (.iconst 1, 1) := by decide +kernel
theorem dX8_volumeOf_40 : decode cX8_volumeOf 40 = .ok (.goto 4, 3) := by decide +kernel
theorem dX8_volumeOf_43 : decode cX8_volumeOf 43 = .ok (.iconst 5, 1) := by decide +kernel
theorem dX8_volumeOf_44 : decode cX8_volumeOf 44 = .ok (.ireturn, 1) := by decide +kernel
theorem dX8_isSide_0 : decode cX8_isSide 0 = .ok (.iload_n 0, 1) := by decide +kernel
theorem dX8_isSide_1 : decode cX8_isSide 1 = .ok (.iconst 1, 1) := by decide +kernel
theorem dX8_isSide_2 : decode cX8_isSide 2 = .ok (.if_icmp .lt 13, 3) := by decide +kernel
theorem dX8_isSide_5 : decode cX8_isSide 5 = .ok (.iload_n 0, 1) := by decide +kernel
theorem dX8_isSide_6 : decode cX8_isSide 6 = .ok (.bipush 6, 2) := by decide +kernel
theorem dX8_isSide_8 : decode cX8_isSide 8 = .ok (.if_icmp .gt 7, 3) := by decide +kernel
theorem dX8_isSide_11 : decode cX8_isSide 11 = .ok (.iconst 1, 1) := by decide +kernel
theorem dX8_isSide_12 : decode cX8_isSide 12 = .ok (.goto 4, 3) := by decide +kernel
theorem dX8_isSide_15 : decode cX8_isSide 15 = .ok (.iconst 0, 1) := by decide +kernel
theorem dX8_isSide_16 : decode cX8_isSide 16 = .ok (.ireturn, 1) := by decide +kernel
theorem dX8_isMaskColumn_0 : decode cX8_isMaskColumn 0 = .ok (.iload_n 0, 1) := by decide +kernel
theorem dX8_isMaskColumn_1 : decode cX8_isMaskColumn 1 = .ok (.ifCond .lt 13, 3) := by decide +kernel
theorem dX8_isMaskColumn_4 : decode cX8_isMaskColumn 4 = .ok (.iload_n 0, 1) := by decide +kernel
theorem dX8_isMaskColumn_5 : decode cX8_isMaskColumn 5 = .ok (.bipush 6, 2) := by decide +kernel
theorem dX8_isMaskColumn_7 : decode cX8_isMaskColumn 7 = .ok (.if_icmp .ge 7, 3) := by decide +kernel
theorem dX8_isMaskColumn_10 : decode cX8_isMaskColumn 10 = .ok (.iconst 1, 1) := by decide +kernel
theorem dX8_isMaskColumn_11 : decode cX8_isMaskColumn 11 = .ok (.goto 4, 3) := by decide +kernel
theorem dX8_isMaskColumn_14 : decode cX8_isMaskColumn 14 = .ok (.iconst 0, 1) := by decide +kernel
theorem dX8_isMaskColumn_15 : decode cX8_isMaskColumn 15 = .ok (.ireturn, 1) := by decide +kernel
theorem dX8_isBeats_0 : decode cX8_isBeats 0 = .ok (.iload_n 0, 1) := by decide +kernel
theorem dX8_isBeats_1 : decode cX8_isBeats 1 = .ok (.iconst 1, 1) := by decide +kernel
theorem dX8_isBeats_2 : decode cX8_isBeats 2 = .ok (.if_icmp .lt 13, 3) := by decide +kernel
theorem dX8_isBeats_5 : decode cX8_isBeats 5 = .ok (.iload_n 0, 1) := by decide +kernel
theorem dX8_isBeats_6 : decode cX8_isBeats 6 = .ok (.bipush 40, 2) := by decide +kernel
theorem dX8_isBeats_8 : decode cX8_isBeats 8 = .ok (.if_icmp .gt 7, 3) := by decide +kernel
theorem dX8_isBeats_11 : decode cX8_isBeats 11 = .ok (.iconst 1, 1) := by decide +kernel
theorem dX8_isBeats_12 : decode cX8_isBeats 12 = .ok (.goto 4, 3) := by decide +kernel
theorem dX8_isBeats_15 : decode cX8_isBeats 15 = .ok (.iconst 0, 1) := by decide +kernel
theorem dX8_isBeats_16 : decode cX8_isBeats 16 = .ok (.ireturn, 1) := by decide +kernel
theorem dX8_digitSign_0 : decode cX8_digitSign 0 = .ok (.bipush 48, 2) := by decide +kernel
theorem dX8_digitSign_2 : decode cX8_digitSign 2 = .ok (.iload_n 0, 1) := by decide +kernel
theorem dX8_digitSign_3 : decode cX8_digitSign 3 = .ok (.iadd, 1) := by decide +kernel
theorem dX8_digitSign_4 : decode cX8_digitSign 4 = .ok (.i2c, 1) := by decide +kernel
theorem dX8_digitSign_5 : decode cX8_digitSign 5 = .ok (.ireturn, 1) := by decide +kernel
theorem dX8_leastCommonMultiple_0 : decode cX8_leastCommonMultiple 0 = .ok (.iload_n 0, 1) := by decide +kernel
theorem dX8_leastCommonMultiple_1 : decode cX8_leastCommonMultiple 1 = .ok (.iload_n 1, 1) := by decide +kernel
theorem dX8_leastCommonMultiple_2 : decode cX8_leastCommonMultiple 2 = .ok (.invokestatic 418, 3) := by decide +kernel
theorem dX8_leastCommonMultiple_5 : decode cX8_leastCommonMultiple 5 = .ok (.istore_n 2, 1) := by decide +kernel
theorem dX8_leastCommonMultiple_6 : decode cX8_leastCommonMultiple 6 = .ok (.iload_n 2, 1) := by decide +kernel
theorem dX8_leastCommonMultiple_7 : decode cX8_leastCommonMultiple 7 = .ok (.ifCond .ne 7, 3) := by decide +kernel
theorem dX8_leastCommonMultiple_10 : decode cX8_leastCommonMultiple 10 = .ok (.iconst 0, 1) := by decide +kernel
theorem dX8_leastCommonMultiple_11 : decode cX8_leastCommonMultiple 11 = .ok (.goto 8, 3) := by decide +kernel
theorem dX8_leastCommonMultiple_14 : decode cX8_leastCommonMultiple 14 = .ok (.iload_n 0, 1) := by decide +kernel
theorem dX8_leastCommonMultiple_15 : decode cX8_leastCommonMultiple 15 = .ok (.iload_n 2, 1) := by decide +kernel
theorem dX8_leastCommonMultiple_16 : decode cX8_leastCommonMultiple 16 = .ok (.idiv, 1) := by decide +kernel
theorem dX8_leastCommonMultiple_17 : decode cX8_leastCommonMultiple 17 = .ok (.iload_n 1, 1) := by decide +kernel
theorem dX8_leastCommonMultiple_18 : decode cX8_leastCommonMultiple 18 = .ok (.imul, 1) := by decide +kernel
theorem dX8_leastCommonMultiple_19 : decode cX8_leastCommonMultiple 19 = .ok (.ireturn, 1) := by decide +kernel
theorem dX8_greatestCommonDivisor_0 : decode cX8_greatestCommonDivisor 0 = .ok (.iload_n 0, 1) := by decide +kernel
theorem dX8_greatestCommonDivisor_1 : decode cX8_greatestCommonDivisor 1 = .ok (.istore_n 2, 1) := by decide +kernel
theorem dX8_greatestCommonDivisor_2 : decode cX8_greatestCommonDivisor 2 = .ok (.iload_n 1, 1) := by decide +kernel
theorem dX8_greatestCommonDivisor_3 : decode cX8_greatestCommonDivisor 3 = .ok (.istore_n 3, 1) := by decide +kernel
theorem dX8_greatestCommonDivisor_4 : decode cX8_greatestCommonDivisor 4 = .ok (.iconst 0, 1) := by decide +kernel
theorem dX8_greatestCommonDivisor_5 : decode cX8_greatestCommonDivisor 5 = .ok (.istore 4, 2) := by decide +kernel
theorem dX8_greatestCommonDivisor_7 : decode cX8_greatestCommonDivisor 7 = .ok (.iload 4, 2) := by decide +kernel
theorem dX8_greatestCommonDivisor_9 : decode cX8_greatestCommonDivisor 9 = .ok (.bipush 100, 2) := by decide +kernel
theorem dX8_greatestCommonDivisor_11 : decode cX8_greatestCommonDivisor 11 = .ok (.if_icmp .ge 23, 3) := by decide +kernel
theorem dX8_greatestCommonDivisor_14 : decode cX8_greatestCommonDivisor 14 = .ok (.iload_n 3, 1) := by decide +kernel
theorem dX8_greatestCommonDivisor_15 : decode cX8_greatestCommonDivisor 15 = .ok (.ifCond .eq 19, 3) := by decide +kernel
theorem dX8_greatestCommonDivisor_18 : decode cX8_greatestCommonDivisor 18 = .ok (.iload_n 2, 1) := by decide +kernel
theorem dX8_greatestCommonDivisor_19 : decode cX8_greatestCommonDivisor 19 = .ok (.iload_n 3, 1) := by decide +kernel
theorem dX8_greatestCommonDivisor_20 : decode cX8_greatestCommonDivisor 20 = .ok (.irem, 1) := by decide +kernel
theorem dX8_greatestCommonDivisor_21 : decode cX8_greatestCommonDivisor 21 = .ok (.istore 5, 2) := by decide +kernel
theorem dX8_greatestCommonDivisor_23 : decode cX8_greatestCommonDivisor 23 = .ok (.iload_n 3, 1) := by decide +kernel
theorem dX8_greatestCommonDivisor_24 : decode cX8_greatestCommonDivisor 24 = .ok (.istore_n 2, 1) := by decide +kernel
theorem dX8_greatestCommonDivisor_25 : decode cX8_greatestCommonDivisor 25 = .ok (.iload 5, 2) := by decide +kernel
theorem dX8_greatestCommonDivisor_27 : decode cX8_greatestCommonDivisor 27 = .ok (.istore_n 3, 1) := by decide +kernel
theorem dX8_greatestCommonDivisor_28 : decode cX8_greatestCommonDivisor 28 = .ok (.iinc 4 1, 3) := by decide +kernel
theorem dX8_greatestCommonDivisor_31 : decode cX8_greatestCommonDivisor 31 = .ok (.goto (-24), 3) := by decide +kernel
theorem dX8_greatestCommonDivisor_34 : decode cX8_greatestCommonDivisor 34 = .ok (.iload_n 2, 1) := by decide +kernel
theorem dX8_greatestCommonDivisor_35 : decode cX8_greatestCommonDivisor 35 = .ok (.ireturn, 1) := by decide +kernel
theorem dX9_thrown_0 : decode cX9_thrown 0 = .ok (.aload_n 0, 1) := by decide +kernel
theorem dX9_thrown_1 : decode cX9_thrown 1 = .ok (.getfield 1, 3) := by decide +kernel
theorem dX9_thrown_4 : decode cX9_thrown 4 = .ok (.ireturn, 1) := by decide +kernel
theorem dX9_fails_0 : decode cX9_fails 0 = .ok (.aload_n 0, 1) := by decide +kernel
theorem dX9_fails_1 : decode cX9_fails 1 = .ok (.iload_n 1, 1) := by decide +kernel
theorem dX9_fails_2 : decode cX9_fails 2 = .ok (.putfield 1, 3) := by decide +kernel
theorem dX9_fails_5 : decode cX9_fails 5 = .ok (.iconst 0, 1) := by decide +kernel
theorem dX9_fails_6 : decode cX9_fails 6 = .ok (.ireturn, 1) := by decide +kernel
theorem dX9_isBetween_0 : decode cX9_isBetween 0 = .ok (.iload_n 1, 1) := by decide +kernel
theorem dX9_isBetween_1 : decode cX9_isBetween 1 = .ok (.iload_n 0, 1) := by decide +kernel
theorem dX9_isBetween_2 : decode cX9_isBetween 2 = .ok (.if_icmp .gt 12, 3) := by decide +kernel
theorem dX9_isBetween_5 : decode cX9_isBetween 5 = .ok (.iload_n 0, 1) := by decide +kernel
theorem dX9_isBetween_6 : decode cX9_isBetween 6 = .ok (.iload_n 2, 1) := by decide +kernel
theorem dX9_isBetween_7 : decode cX9_isBetween 7 = .ok (.if_icmp .gt 7, 3) := by decide +kernel
theorem dX9_isBetween_10 : decode cX9_isBetween 10 = .ok (.iconst 1, 1) := by decide +kernel
theorem dX9_isBetween_11 : decode cX9_isBetween 11 = .ok (.goto 4, 3) := by decide +kernel
theorem dX9_isBetween_14 : decode cX9_isBetween 14 = .ok (.iconst 0, 1) := by decide +kernel
theorem dX9_isBetween_15 : decode cX9_isBetween 15 = .ok (.ireturn, 1) := by decide +kernel
theorem dX9_init_0 : decode cX9_init 0 = .ok (.aload_n 0, 1) := by decide +kernel
theorem dX9_init_1 : decode cX9_init 1 = .ok (.invokespecial 7, 3) := by decide +kernel
theorem dX9_init_4 : decode cX9_init 4 = .ok (.aload_n 0, 1) := by decide +kernel
theorem dX9_init_5 : decode cX9_init 5 = .ok (.sipush 260, 3) := by decide +kernel
theorem dX9_init_8 : decode cX9_init 8 = .ok (.newarray .int, 2) := by decide +kernel
theorem dX9_init_10 : decode cX9_init 10 = .ok (.putfield 13, 3) := by decide +kernel
theorem dX9_init_13 : decode cX9_init 13 = .ok (.aload_n 0, 1) := by decide +kernel
theorem dX9_init_14 : decode cX9_init 14 = .ok (.sipush 2080, 3) := by decide +kernel
theorem dX9_init_17 : decode cX9_init 17 = .ok (.newarray .int, 2) := by decide +kernel
theorem dX9_init_19 : decode cX9_init 19 = .ok (.putfield 17, 3) := by decide +kernel
theorem dX9_init_22 : decode cX9_init 22 = .ok (.aload_n 0, 1) := by decide +kernel
theorem dX9_init_23 : decode cX9_init 23 = .ok (.sipush 260, 3) := by decide +kernel
theorem dX9_init_26 : decode cX9_init 26 = .ok (.newarray .int, 2) := by decide +kernel
theorem dX9_init_28 : decode cX9_init 28 = .ok (.putfield 20, 3) := by decide +kernel
theorem dX9_init_31 : decode cX9_init 31 = .ok (.aload_n 0, 1) := by decide +kernel
theorem dX9_init_32 : decode cX9_init 32 = .ok (.sipush 260, 3) := by decide +kernel
theorem dX9_init_35 : decode cX9_init 35 = .ok (.newarray .int, 2) := by decide +kernel
theorem dX9_init_37 : decode cX9_init 37 = .ok (.putfield 23, 3) := by decide +kernel
theorem dX9_init_40 : decode cX9_init 40 = .ok (.aload_n 0, 1) := by decide +kernel
theorem dX9_init_41 : decode cX9_init 41 = .ok (.sipush 260, 3) := by decide +kernel
theorem dX9_init_44 : decode cX9_init 44 = .ok (.newarray .int, 2) := by decide +kernel
theorem dX9_init_46 : decode cX9_init 46 = .ok (.putfield 26, 3) := by decide +kernel
theorem dX9_init_49 : decode cX9_init 49 = .ok (.aload_n 0, 1) := by decide +kernel
theorem dX9_init_50 : decode cX9_init 50 = .ok (.bipush 60, 2) := by decide +kernel
theorem dX9_init_52 : decode cX9_init 52 = .ok (.newarray .char, 2) := by decide +kernel
theorem dX9_init_54 : decode cX9_init 54 = .ok (.putfield 29, 3) := by decide +kernel
theorem dX9_init_57 : decode cX9_init 57 = .ok (.aload_n 0, 1) := by decide +kernel
theorem dX9_init_58 : decode cX9_init 58 = .ok (.bipush 60, 2) := by decide +kernel
theorem dX9_init_60 : decode cX9_init 60 = .ok (.newarray .char, 2) := by decide +kernel
theorem dX9_init_62 : decode cX9_init 62 = .ok (.putfield 33, 3) := by decide +kernel
theorem dX9_init_65 : decode cX9_init 65 = .ok (.aload_n 0, 1) := by decide +kernel
theorem dX9_init_66 : decode cX9_init 66 = .ok (.iconst (-1), 1) := by decide +kernel
theorem dX9_init_67 : decode cX9_init 67 = .ok (.putfield 36, 3) := by decide +kernel
theorem dX9_init_70 : decode cX9_init 70 = .ok (.aload_n 0, 1) := by decide +kernel
theorem dX9_init_71 : decode cX9_init 71 = .ok (.iconst (-1), 1) := by decide +kernel
theorem dX9_init_72 : decode cX9_init 72 = .ok (.putfield 39, 3) := by decide +kernel
theorem dX9_init_75 : decode cX9_init 75 = .ok (.aload_n 0, 1) := by decide +kernel
theorem dX9_init_76 : decode cX9_init 76 = .ok (.iconst 4, 1) := by decide +kernel
theorem dX9_init_77 : decode cX9_init 77 = .ok (.newarray .int, 2) := by decide +kernel
theorem dX9_init_79 : decode cX9_init 79 = .ok (.putfield 42, 3) := by decide +kernel
theorem dX9_init_82 : decode cX9_init 82 = .ok (.aload_n 0, 1) := by decide +kernel
theorem dX9_init_83 : decode cX9_init 83 = .ok (.getfield 13, 3) := by decide +kernel
theorem dX9_init_86 : decode cX9_init 86 = .ok (.iconst 2, 1) := by decide +kernel
theorem dX9_init_87 : decode cX9_init 87 = .ok (.iconst 2, 1) := by decide +kernel
theorem dX9_init_88 : decode cX9_init 88 = .ok (.iastore, 1) := by decide +kernel
theorem dX9_init_89 : decode cX9_init 89 = .ok (.aload_n 0, 1) := by decide +kernel
theorem dX9_init_90 : decode cX9_init 90 = .ok (.getfield 13, 3) := by decide +kernel
theorem dX9_init_93 : decode cX9_init 93 = .ok (.iconst 3, 1) := by decide +kernel
theorem dX9_init_94 : decode cX9_init 94 = .ok (.bipush 30, 2) := by decide +kernel
theorem dX9_init_96 : decode cX9_init 96 = .ok (.iastore, 1) := by decide +kernel
theorem dX9_init_97 : decode cX9_init 97 = .ok (.return_, 1) := by decide +kernel
theorem dX9_copies_0 : decode cX9_copies 0 = .ok (.iconst 0, 1) := by decide +kernel
theorem dX9_copies_1 : decode cX9_copies 1 = .ok (.istore_n 1, 1) := by decide +kernel
theorem dX9_copies_2 : decode cX9_copies 2 = .ok (.iload_n 1, 1) := by decide +kernel
theorem dX9_copies_3 : decode cX9_copies 3 = .ok (.sipush 260, 3) := by decide +kernel
theorem dX9_copies_6 : decode cX9_copies 6 = .ok (.if_icmp .ge 21, 3) := by decide +kernel
theorem dX9_copies_9 : decode cX9_copies 9 = .ok (.aload_n 0, 1) := by decide +kernel
theorem dX9_copies_10 : decode cX9_copies 10 = .ok (.getfield 23, 3) := by decide +kernel
theorem dX9_copies_13 : decode cX9_copies 13 = .ok (.iload_n 1, 1) := by decide +kernel
theorem dX9_copies_14 : decode cX9_copies 14 = .ok (.aload_n 0, 1) := by decide +kernel
theorem dX9_copies_15 : decode cX9_copies 15 = .ok (.getfield 13, 3) := by decide +kernel
theorem dX9_copies_18 : decode cX9_copies 18 = .ok (.iload_n 1, 1) := by decide +kernel
theorem dX9_copies_19 : decode cX9_copies 19 = .ok (.iaload, 1) := by decide +kernel
theorem dX9_copies_20 : decode cX9_copies 20 = .ok (.iastore, 1) := by decide +kernel
theorem dX9_copies_21 : decode cX9_copies 21 = .ok (.iinc 1 1, 3) := by decide +kernel
theorem dX9_copies_24 : decode cX9_copies 24 = .ok (.goto (-22), 3) := by decide +kernel
theorem dX9_copies_27 : decode cX9_copies 27 = .ok (.return_, 1) := by decide +kernel
theorem dX9_goesBack_0 : decode cX9_goesBack 0 = .ok (.iconst 0, 1) := by decide +kernel
theorem dX9_goesBack_1 : decode cX9_goesBack 1 = .ok (.istore_n 1, 1) := by decide +kernel
theorem dX9_goesBack_2 : decode cX9_goesBack 2 = .ok (.iload_n 1, 1) := by decide +kernel
theorem dX9_goesBack_3 : decode cX9_goesBack 3 = .ok (.sipush 260, 3) := by decide +kernel
theorem dX9_goesBack_6 : decode cX9_goesBack 6 = .ok (.if_icmp .ge 21, 3) := by decide +kernel
theorem dX9_goesBack_9 : decode cX9_goesBack 9 = .ok (.aload_n 0, 1) := by decide +kernel
theorem dX9_goesBack_10 : decode cX9_goesBack 10 = .ok (.getfield 13, 3) := by decide +kernel
theorem dX9_goesBack_13 : decode cX9_goesBack 13 = .ok (.iload_n 1, 1) := by decide +kernel
theorem dX9_goesBack_14 : decode cX9_goesBack 14 = .ok (.aload_n 0, 1) := by decide +kernel
theorem dX9_goesBack_15 : decode cX9_goesBack 15 = .ok (.getfield 23, 3) := by decide +kernel
theorem dX9_goesBack_18 : decode cX9_goesBack 18 = .ok (.iload_n 1, 1) := by decide +kernel
theorem dX9_goesBack_19 : decode cX9_goesBack 19 = .ok (.iaload, 1) := by decide +kernel
theorem dX9_goesBack_20 : decode cX9_goesBack 20 = .ok (.iastore, 1) := by decide +kernel
theorem dX9_goesBack_21 : decode cX9_goesBack 21 = .ok (.iinc 1 1, 3) := by decide +kernel
theorem dX9_goesBack_24 : decode cX9_goesBack 24 = .ok (.goto (-22), 3) := by decide +kernel
theorem dX9_goesBack_27 : decode cX9_goesBack 27 = .ok (.return_, 1) := by decide +kernel
theorem dX9_keeps_0 : decode cX9_keeps 0 = .ok (.aload_n 0, 1) := by decide +kernel
theorem dX9_keeps_1 : decode cX9_keeps 1 = .ok (.getfield 45, 3) := by decide +kernel
theorem dX9_keeps_4 : decode cX9_keeps 4 = .ok (.bipush 8, 2) := by decide +kernel
theorem dX9_keeps_6 : decode cX9_keeps 6 = .ok (.if_icmp .ne 26, 3) := by decide +kernel
theorem dX9_keeps_9 : decode cX9_keeps 9 = .ok (.aload_n 0, 1) := by decide +kernel
theorem dX9_keeps_10 : decode cX9_keeps 10 = .ok (.aload_n 0, 1) := by decide +kernel
theorem dX9_keeps_11 : decode cX9_keeps 11 = .ok (.getfield 48, 3) := by decide +kernel
theorem dX9_keeps_14 : decode cX9_keeps 14 = .ok (.iconst 1, 1) := by decide +kernel
theorem dX9_keeps_15 : decode cX9_keeps 15 = .ok (.iadd, 1) := by decide +kernel
theorem dX9_keeps_16 : decode cX9_keeps 16 = .ok (.bipush 8, 2) := by decide +kernel
theorem dX9_keeps_18 : decode cX9_keeps 18 = .ok (.irem, 1) := by decide +kernel
theorem dX9_keeps_19 : decode cX9_keeps 19 = .ok (.putfield 48, 3) := by decide +kernel
theorem dX9_keeps_22 : decode cX9_keeps 22 = .ok (.aload_n 0, 1) := by decide +kernel
theorem dX9_keeps_23 : decode cX9_keeps 23 = .ok (.dup, 1) := by decide +kernel
theorem dX9_keeps_24 : decode cX9_keeps 24 = .ok (.getfield 45, 3) := by decide +kernel
theorem dX9_keeps_27 : decode cX9_keeps 27 = .ok (.iconst 1, 1) := by decide +kernel
theorem dX9_keeps_28 : decode cX9_keeps 28 = .ok (.isub, 1) := by decide +kernel
theorem dX9_keeps_29 : decode cX9_keeps 29 = .ok (.putfield 45, 3) := by decide +kernel
theorem dX9_keeps_32 : decode cX9_keeps 32 = .ok (.aload_n 0, 1) := by decide +kernel
theorem dX9_keeps_33 : decode cX9_keeps 33 = .ok (.getfield 48, 3) := by decide +kernel
theorem dX9_keeps_36 : decode cX9_keeps 36 = .ok (.aload_n 0, 1) := by decide +kernel
theorem dX9_keeps_37 : decode cX9_keeps 37 = .ok (.getfield 45, 3) := by decide +kernel
theorem dX9_keeps_40 : decode cX9_keeps 40 = .ok (.iadd, 1) := by decide +kernel
theorem dX9_keeps_41 : decode cX9_keeps 41 = .ok (.bipush 8, 2) := by decide +kernel
theorem dX9_keeps_43 : decode cX9_keeps 43 = .ok (.irem, 1) := by decide +kernel
theorem dX9_keeps_44 : decode cX9_keeps 44 = .ok (.istore_n 1, 1) := by decide +kernel
theorem dX9_keeps_45 : decode cX9_keeps 45 = .ok (.iconst 0, 1) := by decide +kernel
theorem dX9_keeps_46 : decode cX9_keeps 46 = .ok (.istore_n 2, 1) := by decide +kernel
theorem dX9_keeps_47 : decode cX9_keeps 47 = .ok (.iload_n 2, 1) := by decide +kernel
theorem dX9_keeps_48 : decode cX9_keeps 48 = .ok (.sipush 260, 3) := by decide +kernel
theorem dX9_keeps_51 : decode cX9_keeps 51 = .ok (.if_icmp .ge 27, 3) := by decide +kernel
theorem dX9_keeps_54 : decode cX9_keeps 54 = .ok (.aload_n 0, 1) := by decide +kernel
theorem dX9_keeps_55 : decode cX9_keeps 55 = .ok (.getfield 17, 3) := by decide +kernel
theorem dX9_keeps_58 : decode cX9_keeps 58 = .ok (.sipush 260, 3) := by decide +kernel
theorem dX9_keeps_61 : decode cX9_keeps 61 = .ok (.iload_n 1, 1) := by decide +kernel
theorem dX9_keeps_62 : decode cX9_keeps 62 = .ok (.imul, 1) := by decide +kernel
theorem dX9_keeps_63 : decode cX9_keeps 63 = .ok (.iload_n 2, 1) := by decide +kernel
theorem dX9_keeps_64 : decode cX9_keeps 64 = .ok (.iadd, 1) := by decide +kernel
theorem dX9_keeps_65 : decode cX9_keeps 65 = .ok (.aload_n 0, 1) := by decide +kernel
theorem dX9_keeps_66 : decode cX9_keeps 66 = .ok (.getfield 23, 3) := by decide +kernel
theorem dX9_keeps_69 : decode cX9_keeps 69 = .ok (.iload_n 2, 1) := by decide +kernel
theorem dX9_keeps_70 : decode cX9_keeps 70 = .ok (.iaload, 1) := by decide +kernel
theorem dX9_keeps_71 : decode cX9_keeps 71 = .ok (.iastore, 1) := by decide +kernel
theorem dX9_keeps_72 : decode cX9_keeps 72 = .ok (.iinc 2 1, 3) := by decide +kernel
theorem dX9_keeps_75 : decode cX9_keeps 75 = .ok (.goto (-28), 3) := by decide +kernel
theorem dX9_keeps_78 : decode cX9_keeps 78 = .ok (.aload_n 0, 1) := by decide +kernel
theorem dX9_keeps_79 : decode cX9_keeps 79 = .ok (.dup, 1) := by decide +kernel
theorem dX9_keeps_80 : decode cX9_keeps 80 = .ok (.getfield 45, 3) := by decide +kernel
theorem dX9_keeps_83 : decode cX9_keeps 83 = .ok (.iconst 1, 1) := by decide +kernel
theorem dX9_keeps_84 : decode cX9_keeps 84 = .ok (.iadd, 1) := by decide +kernel
theorem dX9_keeps_85 : decode cX9_keeps 85 = .ok (.putfield 45, 3) := by decide +kernel
theorem dX9_keeps_88 : decode cX9_keeps 88 = .ok (.return_, 1) := by decide +kernel
theorem dX9_remembers_0 : decode cX9_remembers 0 = .ok (.aload_n 0, 1) := by decide +kernel
theorem dX9_remembers_1 : decode cX9_remembers 1 = .ok (.invokevirtual 51, 3) := by decide +kernel
theorem dX9_remembers_4 : decode cX9_remembers 4 = .ok (.aload_n 0, 1) := by decide +kernel
theorem dX9_remembers_5 : decode cX9_remembers 5 = .ok (.invokevirtual 54, 3) := by decide +kernel
theorem dX9_remembers_8 : decode cX9_remembers 8 = .ok (.return_, 1) := by decide +kernel
theorem dX9_isSection_0 : decode cX9_isSection 0 = .ok (.iload_n 1, 1) := by decide +kernel
theorem dX9_isSection_1 : decode cX9_isSection 1 = .ok (.iconst 0, 1) := by decide +kernel
theorem dX9_isSection_2 : decode cX9_isSection 2 = .ok (.aload_n 0, 1) := by decide +kernel
theorem dX9_isSection_3 : decode cX9_isSection 3 = .ok (.getfield 13, 3) := by decide +kernel
theorem dX9_isSection_6 : decode cX9_isSection 6 = .ok (.iconst 0, 1) := by decide +kernel
theorem dX9_isSection_7 : decode cX9_isSection 7 = .ok (.iaload, 1) := by decide +kernel
theorem dX9_isSection_8 : decode cX9_isSection 8 = .ok (.iconst 1, 1) := by decide +kernel
theorem dX9_isSection_9 : decode cX9_isSection 9 = .ok (.isub, 1) := by decide +kernel
theorem dX9_isSection_10 : decode cX9_isSection 10 = .ok (.invokestatic 57, 3) := by decide +kernel
theorem dX9_isSection_13 : decode cX9_isSection 13 = .ok (.ireturn, 1) := by decide +kernel
theorem dX9_of_0 : decode cX9_of 0 = .ok (.aload_n 0, 1) := by decide +kernel
theorem dX9_of_1 : decode cX9_of 1 = .ok (.getfield 13, 3) := by decide +kernel
theorem dX9_of_4 : decode cX9_of 4 = .ok (.bipush 45, 2) := by decide +kernel
theorem dX9_of_6 : decode cX9_of 6 = .ok (.bipush 43, 2) := by decide +kernel
theorem dX9_of_8 : decode cX9_of 8 = .ok (.iload_n 1, 1) := by decide +kernel
theorem dX9_of_9 : decode cX9_of 9 = .ok (.imul, 1) := by decide +kernel
theorem dX9_of_10 : decode cX9_of 10 = .ok (.iadd, 1) := by decide +kernel
theorem dX9_of_11 : decode cX9_of 11 = .ok (.iload_n 2, 1) := by decide +kernel
theorem dX9_of_12 : decode cX9_of 12 = .ok (.iadd, 1) := by decide +kernel
theorem dX9_of_13 : decode cX9_of 13 = .ok (.iaload, 1) := by decide +kernel
theorem dX9_of_14 : decode cX9_of 14 = .ok (.ireturn, 1) := by decide +kernel
theorem dX9_puts_0 : decode cX9_puts 0 = .ok (.aload_n 0, 1) := by decide +kernel
theorem dX9_puts_1 : decode cX9_puts 1 = .ok (.getfield 13, 3) := by decide +kernel
theorem dX9_puts_4 : decode cX9_puts 4 = .ok (.bipush 45, 2) := by decide +kernel
theorem dX9_puts_6 : decode cX9_puts 6 = .ok (.bipush 43, 2) := by decide +kernel
theorem dX9_puts_8 : decode cX9_puts 8 = .ok (.iload_n 1, 1) := by decide +kernel
theorem dX9_puts_9 : decode cX9_puts 9 = .ok (.imul, 1) := by decide +kernel
theorem dX9_puts_10 : decode cX9_puts 10 = .ok (.iadd, 1) := by decide +kernel
theorem dX9_puts_11 : decode cX9_puts 11 = .ok (.iload_n 2, 1) := by decide +kernel
theorem dX9_puts_12 : decode cX9_puts 12 = .ok (.iadd, 1) := by decide +kernel
theorem dX9_puts_13 : decode cX9_puts 13 = .ok (.iload_n 3, 1) := by decide +kernel
theorem dX9_puts_14 : decode cX9_puts 14 = .ok (.iastore, 1) := by decide +kernel
theorem dX9_puts_15 : decode cX9_puts 15 = .ok (.return_, 1) := by decide +kernel
theorem dX9_noteAt_0 : decode cX9_noteAt 0 = .ok (.aload_n 0, 1) := by decide +kernel
theorem dX9_noteAt_1 : decode cX9_noteAt 1 = .ok (.iload_n 1, 1) := by decide +kernel
theorem dX9_noteAt_2 : decode cX9_noteAt 2 = .ok (.bipush 7, 2) := by decide +kernel
theorem dX9_noteAt_4 : decode cX9_noteAt 4 = .ok (.bipush 6, 2) := by decide +kernel
theorem dX9_noteAt_6 : decode cX9_noteAt 6 = .ok (.iload_n 2, 1) := by decide +kernel
theorem dX9_noteAt_7 : decode cX9_noteAt 7 = .ok (.imul, 1) := by decide +kernel
theorem dX9_noteAt_8 : decode cX9_noteAt 8 = .ok (.iadd, 1) := by decide +kernel
theorem dX9_noteAt_9 : decode cX9_noteAt 9 = .ok (.iload_n 3, 1) := by decide +kernel
theorem dX9_noteAt_10 : decode cX9_noteAt 10 = .ok (.iadd, 1) := by decide +kernel
theorem dX9_noteAt_11 : decode cX9_noteAt 11 = .ok (.invokevirtual 61, 3) := by decide +kernel
theorem dX9_noteAt_14 : decode cX9_noteAt 14 = .ok (.ireturn, 1) := by decide +kernel
theorem dX9_putsNote_0 : decode cX9_putsNote 0 = .ok (.aload_n 0, 1) := by decide +kernel
theorem dX9_putsNote_1 : decode cX9_putsNote 1 = .ok (.iload_n 1, 1) := by decide +kernel
theorem dX9_putsNote_2 : decode cX9_putsNote 2 = .ok (.bipush 7, 2) := by decide +kernel
theorem dX9_putsNote_4 : decode cX9_putsNote 4 = .ok (.bipush 6, 2) := by decide +kernel
theorem dX9_putsNote_6 : decode cX9_putsNote 6 = .ok (.iload_n 2, 1) := by decide +kernel
theorem dX9_putsNote_7 : decode cX9_putsNote 7 = .ok (.imul, 1) := by decide +kernel
theorem dX9_putsNote_8 : decode cX9_putsNote 8 = .ok (.iadd, 1) := by decide +kernel
theorem dX9_putsNote_9 : decode cX9_putsNote 9 = .ok (.iload_n 3, 1) := by decide +kernel
theorem dX9_putsNote_10 : decode cX9_putsNote 10 = .ok (.iadd, 1) := by decide +kernel
theorem dX9_putsNote_11 : decode cX9_putsNote 11 = .ok (.iload 4, 2) := by decide +kernel
theorem dX9_putsNote_13 : decode cX9_putsNote 13 = .ok (.invokevirtual 65, 3) := by decide +kernel
theorem dX9_putsNote_16 : decode cX9_putsNote 16 = .ok (.return_, 1) := by decide +kernel
theorem dX9_isCell_0 : decode cX9_isCell 0 = .ok (.aload_n 0, 1) := by decide +kernel
theorem dX9_isCell_1 : decode cX9_isCell 1 = .ok (.iload_n 1, 1) := by decide +kernel
theorem dX9_isCell_2 : decode cX9_isCell 2 = .ok (.invokevirtual 69, 3) := by decide +kernel
theorem dX9_isCell_5 : decode cX9_isCell 5 = .ok (.ifCond .eq 39, 3) := by decide +kernel
theorem dX9_isCell_8 : decode cX9_isCell 8 = .ok (.iload_n 2, 1) := by decide +kernel
theorem dX9_isCell_9 : decode cX9_isCell 9 = .ok (.iconst 0, 1) := by decide +kernel
theorem dX9_isCell_10 : decode cX9_isCell 10 = .ok (.aload_n 0, 1) := by decide +kernel
theorem dX9_isCell_11 : decode cX9_isCell 11 = .ok (.iload_n 1, 1) := by decide +kernel
theorem dX9_isCell_12 : decode cX9_isCell 12 = .ok (.iconst 1, 1) := by decide +kernel
theorem dX9_isCell_13 : decode cX9_isCell 13 = .ok (.invokevirtual 61, 3) := by decide +kernel
theorem dX9_isCell_16 : decode cX9_isCell 16 = .ok (.iconst 1, 1) := by decide +kernel
theorem dX9_isCell_17 : decode cX9_isCell 17 = .ok (.isub, 1) := by decide +kernel
theorem dX9_isCell_18 : decode cX9_isCell 18 = .ok (.invokestatic 57, 3) := by decide +kernel
theorem dX9_isCell_21 : decode cX9_isCell 21 = .ok (.ifCond .eq 23, 3) := by decide +kernel
theorem dX9_isCell_24 : decode cX9_isCell 24 = .ok (.iload_n 3, 1) := by decide +kernel
theorem dX9_isCell_25 : decode cX9_isCell 25 = .ok (.iconst 0, 1) := by decide +kernel
theorem dX9_isCell_26 : decode cX9_isCell 26 = .ok (.aload_n 0, 1) := by decide +kernel
theorem dX9_isCell_27 : decode cX9_isCell 27 = .ok (.iload_n 1, 1) := by decide +kernel
theorem dX9_isCell_28 : decode cX9_isCell 28 = .ok (.iconst 2, 1) := by decide +kernel
theorem dX9_isCell_29 : decode cX9_isCell 29 = .ok (.invokevirtual 61, 3) := by decide +kernel
theorem dX9_isCell_32 : decode cX9_isCell 32 = .ok (.iconst 1, 1) := by decide +kernel
theorem dX9_isCell_33 : decode cX9_isCell 33 = .ok (.isub, 1) := by decide +kernel
theorem dX9_isCell_34 : decode cX9_isCell 34 = .ok (.invokestatic 57, 3) := by decide +kernel
theorem dX9_isCell_37 : decode cX9_isCell 37 = .ok (.ifCond .eq 7, 3) := by decide +kernel
theorem dX9_isCell_40 : decode cX9_isCell 40 = .ok (.iconst 1, 1) := by decide +kernel
theorem dX9_isCell_41 : decode cX9_isCell 41 = .ok (.goto 4, 3) := by decide +kernel
theorem dX9_isCell_44 : decode cX9_isCell 44 = .ok (.iconst 0, 1) := by decide +kernel
theorem dX9_isCell_45 : decode cX9_isCell 45 = .ok (.ireturn, 1) := by decide +kernel
theorem dX9_isMaskedAt_0 : decode cX9_isMaskedAt 0 = .ok (.aload_n 0, 1) := by decide +kernel
theorem dX9_isMaskedAt_1 : decode cX9_isMaskedAt 1 = .ok (.iload_n 1, 1) := by decide +kernel
theorem dX9_isMaskedAt_2 : decode cX9_isMaskedAt 2 = .ok (.iconst 3, 1) := by decide +kernel
theorem dX9_isMaskedAt_3 : decode cX9_isMaskedAt 3 = .ok (.invokevirtual 61, 3) := by decide +kernel
theorem dX9_isMaskedAt_6 : decode cX9_isMaskedAt 6 = .ok (.iload_n 2, 1) := by decide +kernel
theorem dX9_isMaskedAt_7 : decode cX9_isMaskedAt 7 = .ok (.ishr, 1) := by decide +kernel
theorem dX9_isMaskedAt_8 : decode cX9_isMaskedAt 8 = .ok (.iconst 1, 1) := by decide +kernel
theorem dX9_isMaskedAt_9 : decode cX9_isMaskedAt 9 = .ok (.iand, 1) := by decide +kernel
theorem dX9_isMaskedAt_10 : decode cX9_isMaskedAt 10 = .ok (.iconst 1, 1) := by decide +kernel
theorem dX9_isMaskedAt_11 : decode cX9_isMaskedAt 11 = .ok (.if_icmp .ne 7, 3) := by decide +kernel
theorem dX9_isMaskedAt_14 : decode cX9_isMaskedAt 14 = .ok (.iconst 1, 1) := by decide +kernel
theorem dX9_isMaskedAt_15 : decode cX9_isMaskedAt 15 = .ok (.goto 4, 3) := by decide +kernel
theorem dX9_isMaskedAt_18 : decode cX9_isMaskedAt 18 = .ok (.iconst 0, 1) := by decide +kernel
theorem dX9_isMaskedAt_19 : decode cX9_isMaskedAt 19 = .ok (.ireturn, 1) := by decide +kernel
theorem dX9_kindOf_0 : decode cX9_kindOf 0 = .ok (.iload_n 0, 1) := by decide +kernel
theorem dX9_kindOf_1 : decode cX9_kindOf 1 = .ok (.bipush 115, 2) := by decide +kernel
theorem dX9_kindOf_3 : decode cX9_kindOf 3 = .ok (.if_icmp .ne 7, 3) := by decide +kernel
theorem dX9_kindOf_6 : decode cX9_kindOf 6 = .ok (.iconst 0, 1) := by decide +kernel
theorem dX9_kindOf_7 : decode cX9_kindOf 7 = .ok (.goto 24, 3) := by decide +kernel
theorem dX9_kindOf_10 : decode cX9_kindOf 10 = .ok (.iload_n 0, 1) := by decide +kernel
theorem dX9_kindOf_11 : decode cX9_kindOf 11 = .ok (.bipush 119, 2) := by decide +kernel
theorem dX9_kindOf_13 : decode cX9_kindOf 13 = .ok (.if_icmp .ne 7, 3) := by decide +kernel
theorem dX9_kindOf_16 : decode cX9_kindOf 16 = .ok (.iconst 1, 1) := by decide +kernel
theorem dX9_kindOf_17 : decode cX9_kindOf 17 = .ok (.goto 14, 3) := by decide +kernel
theorem dX9_kindOf_20 : decode cX9_kindOf 20 = .ok (.iload_n 0, 1) := by decide +kernel
theorem dX9_kindOf_21 : decode cX9_kindOf 21 = .ok (.bipush 100, 2) := by decide +kernel
theorem dX9_kindOf_23 : decode cX9_kindOf 23 = .ok (.if_icmp .ne 7, 3) := by decide +kernel
theorem dX9_kindOf_26 : decode cX9_kindOf 26 = .ok (.iconst 2, 1) := by decide +kernel
theorem dX9_kindOf_27 : decode cX9_kindOf 27 = .ok (.goto 4, 3) := by decide +kernel
theorem dX9_kindOf_30 : decode cX9_kindOf 30 = .ok (.iconst (-1), 1) := by decide +kernel
theorem dX9_kindOf_31 : decode cX9_kindOf 31 = .ok (.ireturn, 1) := by decide +kernel
theorem dX9_letterOf_0 : decode cX9_letterOf 0 = .ok (.iload_n 0, 1) := by decide +kernel
theorem dX9_letterOf_1 : decode cX9_letterOf 1 = .ok (.ifCond .ne 8, 3) := by decide +kernel
theorem dX9_letterOf_4 : decode cX9_letterOf 4 = .ok (.bipush 115, 2) := by decide +kernel
theorem dX9_letterOf_6 : decode cX9_letterOf 6 = .ok (.goto 15, 3) := by decide +kernel
theorem dX9_letterOf_9 : decode cX9_letterOf 9 = .ok (.iload_n 0, 1) := by decide +kernel
theorem dX9_letterOf_10 : decode cX9_letterOf 10 = .ok (.iconst 1, 1) := by decide +kernel
theorem dX9_letterOf_11 : decode cX9_letterOf 11 = .ok (.if_icmp .ne 8, 3) := by decide +kernel
theorem dX9_letterOf_14 : decode cX9_letterOf 14 = .ok (.bipush 119, 2) := by decide +kernel
theorem dX9_letterOf_16 : decode cX9_letterOf 16 = .ok (.goto 5, 3) := by decide +kernel
theorem dX9_letterOf_19 : decode cX9_letterOf 19 = .ok (.bipush 100, 2) := by decide +kernel
theorem dX9_letterOf_21 : decode cX9_letterOf 21 = .ok (.ireturn, 1) := by decide +kernel
theorem dX9_volumeOf_0 : decode cX9_volumeOf 0 = .ok (.iload_n 1, 1) := by decide +kernel
theorem dX9_volumeOf_1 : decode cX9_volumeOf 1 = .ok (.ifCond .eq 7, 3) := by decide +kernel
theorem dX9_volumeOf_4 : decode cX9_volumeOf 4 = .ok (.iload_n 0, 1) := by decide +kernel
theorem dX9_volumeOf_5 : decode cX9_volumeOf 5 = .ok (.ifCond .ne 5, 3) := by decide +kernel
theorem dX9_volumeOf_8 : decode cX9_volumeOf 8 = .ok (.iload_n 1, 1) := by decide +kernel
theorem dX9_volumeOf_9 : decode cX9_volumeOf 9 = .ok (.ireturn, 1) := by decide +kernel
theorem dX9_volumeOf_10 : decode cX9_volumeOf 10 = .ok (.iload_n 0, 1) := by decide +kernel
theorem dX9_volumeOf_11 : decode cX9_volumeOf 11 = .ok (.iconst 2, 1) := by decide +kernel
theorem dX9_volumeOf_12 : decode cX9_volumeOf 12 = .ok (.if_icmp .ne 16, 3) := by decide +kernel
theorem dX9_volumeOf_15 : decode cX9_volumeOf 15 = .ok (.iload_n 1, 1) := by decide +kernel
theorem dX9_volumeOf_16 : decode cX9_volumeOf 16 = .ok (.iconst 2, 1) := by decide +kernel
theorem dX9_volumeOf_17 : decode cX9_volumeOf 17 = .ok (.irem, 1) := by decide +kernel
theorem dX9_volumeOf_18 : decode cX9_volumeOf 18 = .ok (.iconst 1, 1) := by decide +kernel
theorem dX9_volumeOf_19 : decode cX9_volumeOf 19 = .ok (.if_icmp .ne 7, 3) := by decide +kernel
theorem dX9_volumeOf_22 : decode cX9_volumeOf 22 = .ok (.iconst 5, 1) := by decide +kernel
theorem dX9_volumeOf_23 : decode cX9_volumeOf 23 = .ok (.goto 4, 3) := by decide +kernel
theorem dX9_volumeOf_26 : decode cX9_volumeOf 26 = .ok (.iconst 1, 1) := by decide +kernel
theorem dX9_volumeOf_27 : decode cX9_volumeOf 27 = .ok (.ireturn, 1) := by decide +kernel
theorem dX9_volumeOf_28 : decode cX9_volumeOf 28 = .ok (.iload_n 1, 1) := by decide +kernel
theorem dX9_volumeOf_29 : decode cX9_volumeOf 29 = .ok (.bipush 6, 2) := by decide +kernel
theorem dX9_volumeOf_31 : decode cX9_volumeOf 31 = .ok (.if_icmp .le 8, 3) := by decide +kernel
theorem dX9_volumeOf_34 : decode cX9_volumeOf 34 = .ok (.bipush 12, 2) := by decide +kernel
theorem dX9_volumeOf_36 : decode cX9_volumeOf 36 = .ok (.goto 6, 3) := by decide +kernel
theorem dX9_volumeOf_39 : decode cX9_volumeOf 39 = .ok (.iconst 2, 1) := by decide +kernel
theorem dX9_volumeOf_40 : decode cX9_volumeOf 40 = .ok (.iload_n 1, 1) := by decide +kernel
theorem dX9_volumeOf_41 : decode cX9_volumeOf 41 = .ok (.imul, 1) := by decide +kernel
theorem dX9_volumeOf_42 : decode cX9_volumeOf 42 = .ok (.ireturn, 1) := by decide +kernel
theorem dX9_volumeOfColumn_0 : decode cX9_volumeOfColumn 0 = .ok (.iconst 0, 1) := by decide +kernel
theorem dX9_volumeOfColumn_1 : decode cX9_volumeOfColumn 1 = .ok (.istore_n 3, 1) := by decide +kernel
theorem dX9_volumeOfColumn_2 : decode cX9_volumeOfColumn 2 = .ok (.iconst 0, 1) := by decide +kernel
theorem dX9_volumeOfColumn_3 : decode cX9_volumeOfColumn 3 = .ok (.istore 4, 2) := by decide +kernel
theorem dX9_volumeOfColumn_5 : decode cX9_volumeOfColumn 5 = .ok (.iload 4, 2) := by decide +kernel
theorem dX9_volumeOfColumn_7 : decode cX9_volumeOfColumn 7 = .ok (.aload_n 0, 1) := by decide +kernel
theorem dX9_volumeOfColumn_8 : decode cX9_volumeOfColumn 8 = .ok (.iload_n 1, 1) := by decide +kernel
theorem dX9_volumeOfColumn_9 : decode cX9_volumeOfColumn 9 = .ok (.iconst 1, 1) := by decide +kernel
theorem dX9_volumeOfColumn_10 : decode cX9_volumeOfColumn 10 = .ok (.invokevirtual 61, 3) := by decide +kernel
theorem dX9_volumeOfColumn_13 : decode cX9_volumeOfColumn 13 = .ok (.if_icmp .ge 29, 3) := by decide +kernel
theorem dX9_volumeOfColumn_16 : decode cX9_volumeOfColumn 16 = .ok (.iload_n 3, 1) := by decide +kernel
theorem dX9_volumeOfColumn_17 : decode cX9_volumeOfColumn 17 = .ok (.aload_n 0, 1) := by decide +kernel
theorem dX9_volumeOfColumn_18 : decode cX9_volumeOfColumn 18 = .ok (.iload_n 1, 1) := by decide +kernel
theorem dX9_volumeOfColumn_19 : decode cX9_volumeOfColumn 19 = .ok (.iconst 0, 1) := by decide +kernel
theorem dX9_volumeOfColumn_20 : decode cX9_volumeOfColumn 20 = .ok (.invokevirtual 61, 3) := by decide +kernel
theorem dX9_volumeOfColumn_23 : decode cX9_volumeOfColumn 23 = .ok (.aload_n 0, 1) := by decide +kernel
theorem dX9_volumeOfColumn_24 : decode cX9_volumeOfColumn 24 = .ok (.iload_n 1, 1) := by decide +kernel
theorem dX9_volumeOfColumn_25 : decode cX9_volumeOfColumn 25 = .ok (.iload 4, 2) := by decide +kernel
theorem dX9_volumeOfColumn_27 : decode cX9_volumeOfColumn 27 = .ok (.iload_n 2, 1) := by decide +kernel
theorem dX9_volumeOfColumn_28 : decode cX9_volumeOfColumn 28 = .ok (.invokevirtual 73, 3) := by decide +kernel
theorem dX9_volumeOfColumn_31 : decode cX9_volumeOfColumn 31 = .ok (.invokestatic 77, 3) := by decide +kernel
theorem dX9_volumeOfColumn_34 : decode cX9_volumeOfColumn 34 = .ok (.iadd, 1) := by decide +kernel
theorem dX9_volumeOfColumn_35 : decode cX9_volumeOfColumn 35 = .ok (.istore_n 3, 1) := by decide +kernel
theorem dX9_volumeOfColumn_36 : decode cX9_volumeOfColumn 36 = .ok (.iinc 4 1, 3) := by decide +kernel
theorem dX9_volumeOfColumn_39 : decode cX9_volumeOfColumn 39 = .ok (.goto (-34), 3) := by decide +kernel
theorem dX9_volumeOfColumn_42 : decode cX9_volumeOfColumn 42 = .ok (.iload_n 3, 1) := by decide +kernel
theorem dX9_volumeOfColumn_43 : decode cX9_volumeOfColumn 43 = .ok (.ireturn, 1) := by decide +kernel
theorem dX9_notAdd_0 : decode cX9_notAdd 0 = .ok (.iload_n 1, 1) := by decide +kernel
theorem dX9_notAdd_1 : decode cX9_notAdd 1 = .ok (.invokestatic 80, 3) := by decide +kernel
theorem dX9_notAdd_4 : decode cX9_notAdd 4 = .ok (.ifCond .lt 23, 3) := by decide +kernel
theorem dX9_notAdd_7 : decode cX9_notAdd 7 = .ok (.iload_n 2, 1) := by decide +kernel
theorem dX9_notAdd_8 : decode cX9_notAdd 8 = .ok (.iconst 1, 1) := by decide +kernel
theorem dX9_notAdd_9 : decode cX9_notAdd 9 = .ok (.bipush 6, 2) := by decide +kernel
theorem dX9_notAdd_11 : decode cX9_notAdd 11 = .ok (.invokestatic 57, 3) := by decide +kernel
theorem dX9_notAdd_14 : decode cX9_notAdd 14 = .ok (.ifCond .eq 13, 3) := by decide +kernel
theorem dX9_notAdd_17 : decode cX9_notAdd 17 = .ok (.iload_n 3, 1) := by decide +kernel
theorem dX9_notAdd_18 : decode cX9_notAdd 18 = .ok (.iconst 1, 1) := by decide +kernel
theorem dX9_notAdd_19 : decode cX9_notAdd 19 = .ok (.bipush 6, 2) := by decide +kernel
theorem dX9_notAdd_21 : decode cX9_notAdd 21 = .ok (.invokestatic 57, 3) := by decide +kernel
theorem dX9_notAdd_24 : decode cX9_notAdd 24 = .ok (.ifCond .ne 5, 3) := by decide +kernel
theorem dX9_notAdd_27 : decode cX9_notAdd 27 = .ok (.iconst 1, 1) := by decide +kernel
theorem dX9_notAdd_28 : decode cX9_notAdd 28 = .ok (.ireturn, 1) := by decide +kernel
theorem dX9_notAdd_29 : decode cX9_notAdd 29 = .ok (.aload_n 0, 1) := by decide +kernel
theorem dX9_notAdd_30 : decode cX9_notAdd 30 = .ok (.getfield 13, 3) := by decide +kernel
theorem dX9_notAdd_33 : decode cX9_notAdd 33 = .ok (.iconst 0, 1) := by decide +kernel
theorem dX9_notAdd_34 : decode cX9_notAdd 34 = .ok (.iaload, 1) := by decide +kernel
theorem dX9_notAdd_35 : decode cX9_notAdd 35 = .ok (.iconst 5, 1) := by decide +kernel
theorem dX9_notAdd_36 : decode cX9_notAdd 36 = .ok (.if_icmp .ne 7, 3) := by decide +kernel
theorem dX9_notAdd_39 : decode cX9_notAdd 39 = .ok (.iconst 2, 1) := by decide +kernel
theorem dX9_notAdd_40 : decode cX9_notAdd 40 = .ok (.goto 4, 3) := by decide +kernel
theorem dX9_notAdd_43 : decode cX9_notAdd 43 = .ok (.iconst 0, 1) := by decide +kernel
theorem dX9_notAdd_44 : decode cX9_notAdd 44 = .ok (.ireturn, 1) := by decide +kernel
theorem dX9_addsSection_0 : decode cX9_addsSection 0 = .ok (.aload_n 0, 1) := by decide +kernel
theorem dX9_addsSection_1 : decode cX9_addsSection 1 = .ok (.getfield 13, 3) := by decide +kernel
theorem dX9_addsSection_4 : decode cX9_addsSection 4 = .ok (.iconst 0, 1) := by decide +kernel
theorem dX9_addsSection_5 : decode cX9_addsSection 5 = .ok (.iaload, 1) := by decide +kernel
theorem dX9_addsSection_6 : decode cX9_addsSection 6 = .ok (.istore 4, 2) := by decide +kernel
theorem dX9_addsSection_8 : decode cX9_addsSection 8 = .ok (.aload_n 0, 1) := by decide +kernel
theorem dX9_addsSection_9 : decode cX9_addsSection 9 = .ok (.getfield 13, 3) := by decide +kernel
theorem dX9_addsSection_12 : decode cX9_addsSection 12 = .ok (.iconst 0, 1) := by decide +kernel
theorem dX9_addsSection_13 : decode cX9_addsSection 13 = .ok (.dup2, 1) := by decide +kernel
theorem dX9_addsSection_14 : decode cX9_addsSection 14 = .ok (.iaload, 1) := by decide +kernel
theorem dX9_addsSection_15 : decode cX9_addsSection 15 = .ok (.iconst 1, 1) := by decide +kernel
theorem dX9_addsSection_16 : decode cX9_addsSection 16 = .ok (.iadd, 1) := by decide +kernel
theorem dX9_addsSection_17 : decode cX9_addsSection 17 = .ok (.iastore, 1) := by decide +kernel
theorem dX9_addsSection_18 : decode cX9_addsSection 18 = .ok (.iconst 0, 1) := by decide +kernel
theorem dX9_addsSection_19 : decode cX9_addsSection 19 = .ok (.istore 5, 2) := by decide +kernel
theorem dX9_addsSection_21 : decode cX9_addsSection 21 = .ok (.iload 5, 2) := by decide +kernel
theorem dX9_addsSection_23 : decode cX9_addsSection 23 = .ok (.bipush 43, 2) := by decide +kernel
theorem dX9_addsSection_25 : decode cX9_addsSection 25 = .ok (.if_icmp .ge 18, 3) := by decide +kernel
theorem dX9_addsSection_28 : decode cX9_addsSection 28 = .ok (.aload_n 0, 1) := by decide +kernel
theorem dX9_addsSection_29 : decode cX9_addsSection 29 = .ok (.iload 4, 2) := by decide +kernel
theorem dX9_addsSection_31 : decode cX9_addsSection 31 = .ok (.iload 5, 2) := by decide +kernel
theorem dX9_addsSection_33 : decode cX9_addsSection 33 = .ok (.iconst 0, 1) := by decide +kernel
theorem dX9_addsSection_34 : decode cX9_addsSection 34 = .ok (.invokevirtual 65, 3) := by decide +kernel
theorem dX9_addsSection_37 : decode cX9_addsSection 37 = .ok (.iinc 5 1, 3) := by decide +kernel
theorem dX9_addsSection_40 : decode cX9_addsSection 40 = .ok (.goto (-19), 3) := by decide +kernel
theorem dX9_addsSection_43 : decode cX9_addsSection 43 = .ok (.aload_n 0, 1) := by decide +kernel
theorem dX9_addsSection_44 : decode cX9_addsSection 44 = .ok (.iload 4, 2) := by decide +kernel
theorem dX9_addsSection_46 : decode cX9_addsSection 46 = .ok (.iconst 0, 1) := by decide +kernel
theorem dX9_addsSection_47 : decode cX9_addsSection 47 = .ok (.iload_n 1, 1) := by decide +kernel
theorem dX9_addsSection_48 : decode cX9_addsSection 48 = .ok (.invokestatic 80, 3) := by decide +kernel
theorem dX9_addsSection_51 : decode cX9_addsSection 51 = .ok (.invokevirtual 65, 3) := by decide +kernel
theorem dX9_addsSection_54 : decode cX9_addsSection 54 = .ok (.aload_n 0, 1) := by decide +kernel
theorem dX9_addsSection_55 : decode cX9_addsSection 55 = .ok (.iload 4, 2) := by decide +kernel
theorem dX9_addsSection_57 : decode cX9_addsSection 57 = .ok (.iconst 1, 1) := by decide +kernel
theorem dX9_addsSection_58 : decode cX9_addsSection 58 = .ok (.iload_n 2, 1) := by decide +kernel
theorem dX9_addsSection_59 : decode cX9_addsSection 59 = .ok (.invokevirtual 65, 3) := by decide +kernel
theorem dX9_addsSection_62 : decode cX9_addsSection 62 = .ok (.aload_n 0, 1) := by decide +kernel
theorem dX9_addsSection_63 : decode cX9_addsSection 63 = .ok (.iload 4, 2) := by decide +kernel
theorem dX9_addsSection_65 : decode cX9_addsSection 65 = .ok (.iconst 2, 1) := by decide +kernel
theorem dX9_addsSection_66 : decode cX9_addsSection 66 = .ok (.iload_n 3, 1) := by decide +kernel
theorem dX9_addsSection_67 : decode cX9_addsSection 67 = .ok (.invokevirtual 65, 3) := by decide +kernel
theorem dX9_addsSection_70 : decode cX9_addsSection 70 = .ok (.iload 4, 2) := by decide +kernel
theorem dX9_addsSection_72 : decode cX9_addsSection 72 = .ok (.ireturn, 1) := by decide +kernel
theorem dX9_addSection_0 : decode cX9_addSection 0 = .ok (.aload_n 0, 1) := by decide +kernel
theorem dX9_addSection_1 : decode cX9_addSection 1 = .ok (.iconst 0, 1) := by decide +kernel
theorem dX9_addSection_2 : decode cX9_addSection 2 = .ok (.putfield 1, 3) := by decide +kernel
theorem dX9_addSection_5 : decode cX9_addSection 5 = .ok (.aload_n 0, 1) := by decide +kernel
theorem dX9_addSection_6 : decode cX9_addSection 6 = .ok (.iload_n 1, 1) := by decide +kernel
theorem dX9_addSection_7 : decode cX9_addSection 7 = .ok (.iload_n 2, 1) := by decide +kernel
theorem dX9_addSection_8 : decode cX9_addSection 8 = .ok (.iload_n 3, 1) := by decide +kernel
theorem dX9_addSection_9 : decode cX9_addSection 9 = .ok (.invokevirtual 84, 3) := by decide +kernel
theorem dX9_addSection_12 : decode cX9_addSection 12 = .ok (.istore 4, 2) := by decide +kernel
theorem dX9_addSection_14 : decode cX9_addSection 14 = .ok (.iload 4, 2) := by decide +kernel
theorem dX9_addSection_16 : decode cX9_addSection 16 = .ok (.ifCond .eq 10, 3) := by decide +kernel
theorem dX9_addSection_19 : decode cX9_addSection 19 = .ok (.aload_n 0, 1) := by decide +kernel
theorem dX9_addSection_20 : decode cX9_addSection 20 = .ok (.iload 4, 2) := by decide +kernel
theorem dX9_addSection_22 : decode cX9_addSection 22 = .ok (.invokevirtual 87, 3) := by decide +kernel
theorem dX9_addSection_25 : decode cX9_addSection 25 = .ok (.ireturn, 1) := by decide +kernel
theorem dX9_addSection_26 : decode cX9_addSection 26 = .ok (.aload_n 0, 1) := by decide +kernel
theorem dX9_addSection_27 : decode cX9_addSection 27 = .ok (.invokevirtual 90, 3) := by decide +kernel
theorem dX9_addSection_30 : decode cX9_addSection 30 = .ok (.aload_n 0, 1) := by decide +kernel
theorem dX9_addSection_31 : decode cX9_addSection 31 = .ok (.iload_n 1, 1) := by decide +kernel
theorem dX9_addSection_32 : decode cX9_addSection 32 = .ok (.iload_n 2, 1) := by decide +kernel
theorem dX9_addSection_33 : decode cX9_addSection 33 = .ok (.iload_n 3, 1) := by decide +kernel
theorem dX9_addSection_34 : decode cX9_addSection 34 = .ok (.invokevirtual 93, 3) := by decide +kernel
theorem dX9_addSection_37 : decode cX9_addSection 37 = .ok (.ireturn, 1) := by decide +kernel
theorem dX9_notSection_0 : decode cX9_notSection 0 = .ok (.aload_n 0, 1) := by decide +kernel
theorem dX9_notSection_1 : decode cX9_notSection 1 = .ok (.iload_n 1, 1) := by decide +kernel
theorem dX9_notSection_2 : decode cX9_notSection 2 = .ok (.invokevirtual 69, 3) := by decide +kernel
theorem dX9_notSection_5 : decode cX9_notSection 5 = .ok (.ifCond .eq 7, 3) := by decide +kernel
theorem dX9_notSection_8 : decode cX9_notSection 8 = .ok (.iconst 0, 1) := by decide +kernel
theorem dX9_notSection_9 : decode cX9_notSection 9 = .ok (.goto 4, 3) := by decide +kernel
theorem dX9_notSection_12 : decode cX9_notSection 12 = .ok (.iconst 1, 1) := by decide +kernel
theorem dX9_notSection_13 : decode cX9_notSection 13 = .ok (.ireturn, 1) := by decide +kernel
theorem dX9_removesSection_0 : decode cX9_removesSection 0 = .ok (.aload_n 0, 1) := by decide +kernel
theorem dX9_removesSection_1 : decode cX9_removesSection 1 = .ok (.getfield 13, 3) := by decide +kernel
theorem dX9_removesSection_4 : decode cX9_removesSection 4 = .ok (.iconst 0, 1) := by decide +kernel
theorem dX9_removesSection_5 : decode cX9_removesSection 5 = .ok (.dup2, 1) := by decide +kernel
theorem dX9_removesSection_6 : decode cX9_removesSection 6 = .ok (.iaload, 1) := by decide +kernel
theorem dX9_removesSection_7 : decode cX9_removesSection 7 = .ok (.iconst 1, 1) := by decide +kernel
theorem dX9_removesSection_8 : decode cX9_removesSection 8 = .ok (.isub, 1) := by decide +kernel
theorem dX9_removesSection_9 : decode cX9_removesSection 9 = .ok (.iastore, 1) := by decide +kernel
theorem dX9_removesSection_10 : decode cX9_removesSection 10 = .ok (.bipush 45, 2) := by decide +kernel
theorem dX9_removesSection_12 : decode cX9_removesSection 12 = .ok (.bipush 43, 2) := by decide +kernel
theorem dX9_removesSection_14 : decode cX9_removesSection 14 = .ok (.aload_n 0, 1) := by decide +kernel
theorem dX9_removesSection_15 : decode cX9_removesSection 15 = .ok (.getfield 13, 3) := by decide +kernel
theorem dX9_removesSection_18 : decode cX9_removesSection 18 = .ok (.iconst 0, 1) := by decide +kernel
theorem dX9_removesSection_19 : decode cX9_removesSection 19 = .ok (.iaload, 1) := by decide +kernel
theorem dX9_removesSection_20 : decode cX9_removesSection 20 = .ok (.imul, 1) := by decide +kernel
theorem dX9_removesSection_21 : decode cX9_removesSection 21 = .ok (.iadd, 1) := by decide +kernel
theorem dX9_removesSection_22 : decode cX9_removesSection 22 = .ok (.istore_n 2, 1) := by decide +kernel
theorem dX9_removesSection_23 : decode cX9_removesSection 23 = .ok (.bipush 45, 2) := by decide +kernel
theorem dX9_removesSection_25 : decode cX9_removesSection 25 = .ok (.bipush 43, 2) := by decide +kernel
theorem dX9_removesSection_27 : decode cX9_removesSection 27 = .ok (.iload_n 1, 1) := by decide +kernel
theorem dX9_removesSection_28 : decode cX9_removesSection 28 = .ok (.imul, 1) := by decide +kernel
theorem dX9_removesSection_29 : decode cX9_removesSection 29 = .ok (.iadd, 1) := by decide +kernel
theorem dX9_removesSection_30 : decode cX9_removesSection 30 = .ok (.istore_n 3, 1) := by decide +kernel
theorem dX9_removesSection_31 : decode cX9_removesSection 31 = .ok (.iload_n 3, 1) := by decide +kernel
theorem dX9_removesSection_32 : decode cX9_removesSection 32 = .ok (.iload_n 2, 1) := by decide +kernel
theorem dX9_removesSection_33 : decode cX9_removesSection 33 = .ok (.if_icmp .ge 24, 3) := by decide +kernel
theorem dX9_removesSection_36 : decode cX9_removesSection 36 = .ok (.aload_n 0, 1) := by decide +kernel
theorem dX9_removesSection_37 : decode cX9_removesSection 37 = .ok (.getfield 13, 3) := by decide +kernel
theorem dX9_removesSection_40 : decode cX9_removesSection 40 = .ok (.iload_n 3, 1) := by decide +kernel
theorem dX9_removesSection_41 : decode cX9_removesSection 41 = .ok (.aload_n 0, 1) := by decide +kernel
theorem dX9_removesSection_42 : decode cX9_removesSection 42 = .ok (.getfield 13, 3) := by decide +kernel
theorem dX9_removesSection_45 : decode cX9_removesSection 45 = .ok (.iload_n 3, 1) := by decide +kernel
theorem dX9_removesSection_46 : decode cX9_removesSection 46 = .ok (.bipush 43, 2) := by decide +kernel
theorem dX9_removesSection_48 : decode cX9_removesSection 48 = .ok (.iadd, 1) := by decide +kernel
theorem dX9_removesSection_49 : decode cX9_removesSection 49 = .ok (.iaload, 1) := by decide +kernel
theorem dX9_removesSection_50 : decode cX9_removesSection 50 = .ok (.iastore, 1) := by decide +kernel
theorem dX9_removesSection_51 : decode cX9_removesSection 51 = .ok (.iinc 3 1, 3) := by decide +kernel
theorem dX9_removesSection_54 : decode cX9_removesSection 54 = .ok (.goto (-23), 3) := by decide +kernel
theorem dX9_removesSection_57 : decode cX9_removesSection 57 = .ok (.iconst 0, 1) := by decide +kernel
theorem dX9_removesSection_58 : decode cX9_removesSection 58 = .ok (.istore_n 3, 1) := by decide +kernel
theorem dX9_removesSection_59 : decode cX9_removesSection 59 = .ok (.iload_n 3, 1) := by decide +kernel
theorem dX9_removesSection_60 : decode cX9_removesSection 60 = .ok (.bipush 43, 2) := by decide +kernel
theorem dX9_removesSection_62 : decode cX9_removesSection 62 = .ok (.if_icmp .ge 18, 3) := by decide +kernel
theorem dX9_removesSection_65 : decode cX9_removesSection 65 = .ok (.aload_n 0, 1) := by decide +kernel
theorem dX9_removesSection_66 : decode cX9_removesSection 66 = .ok (.getfield 13, 3) := by decide +kernel
theorem dX9_removesSection_69 : decode cX9_removesSection 69 = .ok (.iload_n 2, 1) := by decide +kernel
theorem dX9_removesSection_70 : decode cX9_removesSection 70 = .ok (.iload_n 3, 1) := by decide +kernel
theorem dX9_removesSection_71 : decode cX9_removesSection 71 = .ok (.iadd, 1) := by decide +kernel
theorem dX9_removesSection_72 : decode cX9_removesSection 72 = .ok (.iconst 0, 1) := by decide +kernel
theorem dX9_removesSection_73 : decode cX9_removesSection 73 = .ok (.iastore, 1) := by decide +kernel
theorem dX9_removesSection_74 : decode cX9_removesSection 74 = .ok (.iinc 3 1, 3) := by decide +kernel
theorem dX9_removesSection_77 : decode cX9_removesSection 77 = .ok (.goto (-18), 3) := by decide +kernel
theorem dX9_removesSection_80 : decode cX9_removesSection 80 = .ok (.aload_n 0, 1) := by decide +kernel
theorem dX9_removesSection_81 : decode cX9_removesSection 81 = .ok (.getfield 13, 3) := by decide +kernel
theorem dX9_removesSection_84 : decode cX9_removesSection 84 = .ok (.iconst 0, 1) := by decide +kernel
theorem dX9_removesSection_85 : decode cX9_removesSection 85 = .ok (.iaload, 1) := by decide +kernel
theorem dX9_removesSection_86 : decode cX9_removesSection 86 = .ok (.ireturn, 1) := by decide +kernel
theorem dX9_removeSection_0 : decode cX9_removeSection 0 = .ok (.aload_n 0, 1) := by decide +kernel
theorem dX9_removeSection_1 : decode cX9_removeSection 1 = .ok (.iconst 0, 1) := by decide +kernel
theorem dX9_removeSection_2 : decode cX9_removeSection 2 = .ok (.putfield 1, 3) := by decide +kernel
theorem dX9_removeSection_5 : decode cX9_removeSection 5 = .ok (.aload_n 0, 1) := by decide +kernel
theorem dX9_removeSection_6 : decode cX9_removeSection 6 = .ok (.iload_n 1, 1) := by decide +kernel
theorem dX9_removeSection_7 : decode cX9_removeSection 7 = .ok (.invokevirtual 69, 3) := by decide +kernel
theorem dX9_removeSection_10 : decode cX9_removeSection 10 = .ok (.ifCond .ne 9, 3) := by decide +kernel
theorem dX9_removeSection_13 : decode cX9_removeSection 13 = .ok (.aload_n 0, 1) := by decide +kernel
theorem dX9_removeSection_14 : decode cX9_removeSection 14 = .ok (.iconst 1, 1) := by decide +kernel
theorem dX9_removeSection_15 : decode cX9_removeSection 15 = .ok (.invokevirtual 87, 3) := by decide +kernel
theorem dX9_removeSection_18 : decode cX9_removeSection 18 = .ok (.ireturn, 1) := by decide +kernel
theorem dX9_removeSection_19 : decode cX9_removeSection 19 = .ok (.aload_n 0, 1) := by decide +kernel
theorem dX9_removeSection_20 : decode cX9_removeSection 20 = .ok (.invokevirtual 90, 3) := by decide +kernel
theorem dX9_removeSection_23 : decode cX9_removeSection 23 = .ok (.aload_n 0, 1) := by decide +kernel
theorem dX9_removeSection_24 : decode cX9_removeSection 24 = .ok (.iload_n 1, 1) := by decide +kernel
theorem dX9_removeSection_25 : decode cX9_removeSection 25 = .ok (.invokevirtual 96, 3) := by decide +kernel
theorem dX9_removeSection_28 : decode cX9_removeSection 28 = .ok (.ireturn, 1) := by decide +kernel
theorem dX9_notNote_0 : decode cX9_notNote 0 = .ok (.aload_n 0, 1) := by decide +kernel
theorem dX9_notNote_1 : decode cX9_notNote 1 = .ok (.iload_n 1, 1) := by decide +kernel
theorem dX9_notNote_2 : decode cX9_notNote 2 = .ok (.iload_n 2, 1) := by decide +kernel
theorem dX9_notNote_3 : decode cX9_notNote 3 = .ok (.iload_n 3, 1) := by decide +kernel
theorem dX9_notNote_4 : decode cX9_notNote 4 = .ok (.invokevirtual 99, 3) := by decide +kernel
theorem dX9_notNote_7 : decode cX9_notNote 7 = .ok (.ifCond .ne 5, 3) := by decide +kernel
theorem dX9_notNote_10 : decode cX9_notNote 10 = .ok (.iconst 1, 1) := by decide +kernel
theorem dX9_notNote_11 : decode cX9_notNote 11 = .ok (.ireturn, 1) := by decide +kernel
theorem dX9_notNote_12 : decode cX9_notNote 12 = .ok (.iload 4, 2) := by decide +kernel
theorem dX9_notNote_14 : decode cX9_notNote 14 = .ok (.iconst 0, 1) := by decide +kernel
theorem dX9_notNote_15 : decode cX9_notNote 15 = .ok (.bipush 9, 2) := by decide +kernel
theorem dX9_notNote_17 : decode cX9_notNote 17 = .ok (.invokestatic 57, 3) := by decide +kernel
theorem dX9_notNote_20 : decode cX9_notNote 20 = .ok (.ifCond .eq 7, 3) := by decide +kernel
theorem dX9_notNote_23 : decode cX9_notNote 23 = .ok (.iconst 0, 1) := by decide +kernel
theorem dX9_notNote_24 : decode cX9_notNote 24 = .ok (.goto 4, 3) := by decide +kernel
theorem dX9_notNote_27 : decode cX9_notNote 27 = .ok (.iconst 2, 1) := by decide +kernel
theorem dX9_notNote_28 : decode cX9_notNote 28 = .ok (.ireturn, 1) := by decide +kernel
theorem dX9_setsNote_0 : decode cX9_setsNote 0 = .ok (.aload_n 0, 1) := by decide +kernel
theorem dX9_setsNote_1 : decode cX9_setsNote 1 = .ok (.iload_n 1, 1) := by decide +kernel
theorem dX9_setsNote_2 : decode cX9_setsNote 2 = .ok (.iload_n 2, 1) := by decide +kernel
theorem dX9_setsNote_3 : decode cX9_setsNote 3 = .ok (.iload_n 3, 1) := by decide +kernel
theorem dX9_setsNote_4 : decode cX9_setsNote 4 = .ok (.invokevirtual 73, 3) := by decide +kernel
theorem dX9_setsNote_7 : decode cX9_setsNote 7 = .ok (.istore 5, 2) := by decide +kernel
theorem dX9_setsNote_9 : decode cX9_setsNote 9 = .ok (.aload_n 0, 1) := by decide +kernel
theorem dX9_setsNote_10 : decode cX9_setsNote 10 = .ok (.iload_n 1, 1) := by decide +kernel
theorem dX9_setsNote_11 : decode cX9_setsNote 11 = .ok (.iload_n 2, 1) := by decide +kernel
theorem dX9_setsNote_12 : decode cX9_setsNote 12 = .ok (.iload_n 3, 1) := by decide +kernel
theorem dX9_setsNote_13 : decode cX9_setsNote 13 = .ok (.iload 4, 2) := by decide +kernel
theorem dX9_setsNote_15 : decode cX9_setsNote 15 = .ok (.invokevirtual 102, 3) := by decide +kernel
theorem dX9_setsNote_18 : decode cX9_setsNote 18 = .ok (.iload 5, 2) := by decide +kernel
theorem dX9_setsNote_20 : decode cX9_setsNote 20 = .ok (.ireturn, 1) := by decide +kernel
theorem dX9_setNote_0 : decode cX9_setNote 0 = .ok (.aload_n 0, 1) := by decide +kernel
theorem dX9_setNote_1 : decode cX9_setNote 1 = .ok (.iconst 0, 1) := by decide +kernel
theorem dX9_setNote_2 : decode cX9_setNote 2 = .ok (.putfield 1, 3) := by decide +kernel
theorem dX9_setNote_5 : decode cX9_setNote 5 = .ok (.aload_n 0, 1) := by decide +kernel
theorem dX9_setNote_6 : decode cX9_setNote 6 = .ok (.iload_n 1, 1) := by decide +kernel
theorem dX9_setNote_7 : decode cX9_setNote 7 = .ok (.iload_n 2, 1) := by decide +kernel
theorem dX9_setNote_8 : decode cX9_setNote 8 = .ok (.iload_n 3, 1) := by decide +kernel
theorem dX9_setNote_9 : decode cX9_setNote 9 = .ok (.iload 4, 2) := by decide +kernel
theorem dX9_setNote_11 : decode cX9_setNote 11 = .ok (.invokevirtual 106, 3) := by decide +kernel
theorem dX9_setNote_14 : decode cX9_setNote 14 = .ok (.istore 5, 2) := by decide +kernel
theorem dX9_setNote_16 : decode cX9_setNote 16 = .ok (.iload 5, 2) := by decide +kernel
theorem dX9_setNote_18 : decode cX9_setNote 18 = .ok (.ifCond .eq 10, 3) := by decide +kernel
theorem dX9_setNote_21 : decode cX9_setNote 21 = .ok (.aload_n 0, 1) := by decide +kernel
theorem dX9_setNote_22 : decode cX9_setNote 22 = .ok (.iload 5, 2) := by decide +kernel
theorem dX9_setNote_24 : decode cX9_setNote 24 = .ok (.invokevirtual 87, 3) := by decide +kernel
theorem dX9_setNote_27 : decode cX9_setNote 27 = .ok (.ireturn, 1) := by decide +kernel
theorem dX9_setNote_28 : decode cX9_setNote 28 = .ok (.aload_n 0, 1) := by decide +kernel
theorem dX9_setNote_29 : decode cX9_setNote 29 = .ok (.invokevirtual 90, 3) := by decide +kernel
theorem dX9_setNote_32 : decode cX9_setNote 32 = .ok (.aload_n 0, 1) := by decide +kernel
theorem dX9_setNote_33 : decode cX9_setNote 33 = .ok (.iload_n 1, 1) := by decide +kernel
theorem dX9_setNote_34 : decode cX9_setNote 34 = .ok (.iload_n 2, 1) := by decide +kernel
theorem dX9_setNote_35 : decode cX9_setNote 35 = .ok (.iload_n 3, 1) := by decide +kernel
theorem dX9_setNote_36 : decode cX9_setNote 36 = .ok (.iload 4, 2) := by decide +kernel
theorem dX9_setNote_38 : decode cX9_setNote 38 = .ok (.invokevirtual 110, 3) := by decide +kernel
theorem dX9_setNote_41 : decode cX9_setNote 41 = .ok (.ireturn, 1) := by decide +kernel
theorem dX9_notMask_0 : decode cX9_notMask 0 = .ok (.aload_n 0, 1) := by decide +kernel
theorem dX9_notMask_1 : decode cX9_notMask 1 = .ok (.iload_n 1, 1) := by decide +kernel
theorem dX9_notMask_2 : decode cX9_notMask 2 = .ok (.invokevirtual 69, 3) := by decide +kernel
theorem dX9_notMask_5 : decode cX9_notMask 5 = .ok (.ifCond .ne 5, 3) := by decide +kernel
theorem dX9_notMask_8 : decode cX9_notMask 8 = .ok (.iconst 1, 1) := by decide +kernel
theorem dX9_notMask_9 : decode cX9_notMask 9 = .ok (.ireturn, 1) := by decide +kernel
theorem dX9_notMask_10 : decode cX9_notMask 10 = .ok (.iload_n 2, 1) := by decide +kernel
theorem dX9_notMask_11 : decode cX9_notMask 11 = .ok (.iconst 0, 1) := by decide +kernel
theorem dX9_notMask_12 : decode cX9_notMask 12 = .ok (.iconst 5, 1) := by decide +kernel
theorem dX9_notMask_13 : decode cX9_notMask 13 = .ok (.invokestatic 57, 3) := by decide +kernel
theorem dX9_notMask_16 : decode cX9_notMask 16 = .ok (.ifCond .eq 7, 3) := by decide +kernel
theorem dX9_notMask_19 : decode cX9_notMask 19 = .ok (.iconst 0, 1) := by decide +kernel
theorem dX9_notMask_20 : decode cX9_notMask 20 = .ok (.goto 4, 3) := by decide +kernel
theorem dX9_notMask_23 : decode cX9_notMask 23 = .ok (.iconst 2, 1) := by decide +kernel
theorem dX9_notMask_24 : decode cX9_notMask 24 = .ok (.ireturn, 1) := by decide +kernel
theorem dX9_setsMasked_0 : decode cX9_setsMasked 0 = .ok (.aload_n 0, 1) := by decide +kernel
theorem dX9_setsMasked_1 : decode cX9_setsMasked 1 = .ok (.iload_n 1, 1) := by decide +kernel
theorem dX9_setsMasked_2 : decode cX9_setsMasked 2 = .ok (.iload_n 2, 1) := by decide +kernel
theorem dX9_setsMasked_3 : decode cX9_setsMasked 3 = .ok (.invokevirtual 113, 3) := by decide +kernel
theorem dX9_setsMasked_6 : decode cX9_setsMasked 6 = .ok (.istore 4, 2) := by decide +kernel
theorem dX9_setsMasked_8 : decode cX9_setsMasked 8 = .ok (.aload_n 0, 1) := by decide +kernel
theorem dX9_setsMasked_9 : decode cX9_setsMasked 9 = .ok (.iload_n 1, 1) := by decide +kernel
theorem dX9_setsMasked_10 : decode cX9_setsMasked 10 = .ok (.iconst 3, 1) := by decide +kernel
theorem dX9_setsMasked_11 : decode cX9_setsMasked 11 = .ok (.invokevirtual 61, 3) := by decide +kernel
theorem dX9_setsMasked_14 : decode cX9_setsMasked 14 = .ok (.iload 4, 2) := by decide +kernel
theorem dX9_setsMasked_16 : decode cX9_setsMasked 16 = .ok (.ifCond .eq 9, 3) := by decide +kernel
theorem dX9_setsMasked_19 : decode cX9_setsMasked 19 = .ok (.iconst 1, 1) := by decide +kernel
theorem dX9_setsMasked_20 : decode cX9_setsMasked 20 = .ok (.iload_n 2, 1) := by decide +kernel
theorem dX9_setsMasked_21 : decode cX9_setsMasked 21 = .ok (.ishl, 1) := by decide +kernel
theorem dX9_setsMasked_22 : decode cX9_setsMasked 22 = .ok (.goto 4, 3) := by decide +kernel
theorem dX9_setsMasked_25 : decode cX9_setsMasked 25 = .ok (.iconst 0, 1) := by decide +kernel
theorem dX9_setsMasked_26 : decode cX9_setsMasked 26 = .ok (.isub, 1) := by decide +kernel
theorem dX9_setsMasked_27 : decode cX9_setsMasked 27 = .ok (.istore 5, 2) := by decide +kernel
theorem dX9_setsMasked_29 : decode cX9_setsMasked 29 = .ok (.aload_n 0, 1) := by decide +kernel
theorem dX9_setsMasked_30 : decode cX9_setsMasked 30 = .ok (.iload_n 1, 1) := by decide +kernel
theorem dX9_setsMasked_31 : decode cX9_setsMasked 31 = .ok (.iconst 3, 1) := by decide +kernel
theorem dX9_setsMasked_32 : decode cX9_setsMasked 32 = .ok (.iload 5, 2) := by decide +kernel
theorem dX9_setsMasked_34 : decode cX9_setsMasked 34 = .ok (.iload_n 3, 1) := by decide +kernel
theorem dX9_setsMasked_35 : decode cX9_setsMasked 35 = .ok (.iload_n 2, 1) := by decide +kernel
theorem dX9_setsMasked_36 : decode cX9_setsMasked 36 = .ok (.ishl, 1) := by decide +kernel
theorem dX9_setsMasked_37 : decode cX9_setsMasked 37 = .ok (.iadd, 1) := by decide +kernel
theorem dX9_setsMasked_38 : decode cX9_setsMasked 38 = .ok (.invokevirtual 65, 3) := by decide +kernel
theorem dX9_setsMasked_41 : decode cX9_setsMasked 41 = .ok (.iload 4, 2) := by decide +kernel
theorem dX9_setsMasked_43 : decode cX9_setsMasked 43 = .ok (.ifCond .eq 7, 3) := by decide +kernel
theorem dX9_setsMasked_46 : decode cX9_setsMasked 46 = .ok (.iconst 1, 1) := by decide +kernel
theorem dX9_setsMasked_47 : decode cX9_setsMasked 47 = .ok (.goto 4, 3) := by decide +kernel
theorem dX9_setsMasked_50 : decode cX9_setsMasked 50 = .ok (.iconst 0, 1) := by decide +kernel
theorem dX9_setsMasked_51 : decode cX9_setsMasked 51 = .ok (.ireturn, 1) := by decide +kernel
theorem dX9_setMasked_0 : decode cX9_setMasked 0 = .ok (.aload_n 0, 1) := by decide +kernel
theorem dX9_setMasked_1 : decode cX9_setMasked 1 = .ok (.iconst 0, 1) := by decide +kernel
theorem dX9_setMasked_2 : decode cX9_setMasked 2 = .ok (.putfield 1, 3) := by decide +kernel
theorem dX9_setMasked_5 : decode cX9_setMasked 5 = .ok (.aload_n 0, 1) := by decide +kernel
theorem dX9_setMasked_6 : decode cX9_setMasked 6 = .ok (.iload_n 1, 1) := by decide +kernel
theorem dX9_setMasked_7 : decode cX9_setMasked 7 = .ok (.iload_n 2, 1) := by decide +kernel
theorem dX9_setMasked_8 : decode cX9_setMasked 8 = .ok (.invokevirtual 117, 3) := by decide +kernel
theorem dX9_setMasked_11 : decode cX9_setMasked 11 = .ok (.istore 4, 2) := by decide +kernel
theorem dX9_setMasked_13 : decode cX9_setMasked 13 = .ok (.iload 4, 2) := by decide +kernel
theorem dX9_setMasked_15 : decode cX9_setMasked 15 = .ok (.ifCond .eq 18, 3) := by decide +kernel
theorem dX9_setMasked_18 : decode cX9_setMasked 18 = .ok (.aload_n 0, 1) := by decide +kernel
theorem dX9_setMasked_19 : decode cX9_setMasked 19 = .ok (.iload 4, 2) := by decide +kernel
theorem dX9_setMasked_21 : decode cX9_setMasked 21 = .ok (.invokevirtual 87, 3) := by decide +kernel
theorem dX9_setMasked_24 : decode cX9_setMasked 24 = .ok (.ifCond .le 7, 3) := by decide +kernel
theorem dX9_setMasked_27 : decode cX9_setMasked 27 = .ok (.iconst 1, 1) := by decide +kernel
theorem dX9_setMasked_28 : decode cX9_setMasked 28 = .ok (.goto 4, 3) := by decide +kernel
theorem dX9_setMasked_31 : decode cX9_setMasked 31 = .ok (.iconst 0, 1) := by decide +kernel
theorem dX9_setMasked_32 : decode cX9_setMasked 32 = .ok (.ireturn, 1) := by decide +kernel
theorem dX9_setMasked_33 : decode cX9_setMasked 33 = .ok (.aload_n 0, 1) := by decide +kernel
theorem dX9_setMasked_34 : decode cX9_setMasked 34 = .ok (.invokevirtual 90, 3) := by decide +kernel
theorem dX9_setMasked_37 : decode cX9_setMasked 37 = .ok (.aload_n 0, 1) := by decide +kernel
theorem dX9_setMasked_38 : decode cX9_setMasked 38 = .ok (.iload_n 1, 1) := by decide +kernel
theorem dX9_setMasked_39 : decode cX9_setMasked 39 = .ok (.iload_n 2, 1) := by decide +kernel
theorem dX9_setMasked_40 : decode cX9_setMasked 40 = .ok (.iload_n 3, 1) := by decide +kernel
theorem dX9_setMasked_41 : decode cX9_setMasked 41 = .ok (.ifCond .eq 7, 3) := by decide +kernel
theorem dX9_setMasked_44 : decode cX9_setMasked 44 = .ok (.iconst 1, 1) := by decide +kernel
theorem dX9_setMasked_45 : decode cX9_setMasked 45 = .ok (.goto 4, 3) := by decide +kernel
theorem dX9_setMasked_48 : decode cX9_setMasked 48 = .ok (.iconst 0, 1) := by decide +kernel
theorem dX9_setMasked_49 : decode cX9_setMasked 49 = .ok (.invokevirtual 120, 3) := by decide +kernel
theorem dX9_setMasked_52 : decode cX9_setMasked 52 = .ok (.iconst 1, 1) := by decide +kernel
theorem dX9_setMasked_53 : decode cX9_setMasked 53 = .ok (.if_icmp .ne 7, 3) := by decide +kernel
theorem dX9_setMasked_56 : decode cX9_setMasked 56 = .ok (.iconst 1, 1) := by decide +kernel
theorem dX9_setMasked_57 : decode cX9_setMasked 57 = .ok (.goto 4, 3) := by decide +kernel
theorem dX9_setMasked_60 : decode cX9_setMasked 60 = .ok (.iconst 0, 1) := by decide +kernel
theorem dX9_setMasked_61 : decode cX9_setMasked 61 = .ok (.ireturn, 1) := by decide +kernel
theorem dX9_transposes_0 : decode cX9_transposes 0 = .ok (.iconst 0, 1) := by decide +kernel
theorem dX9_transposes_1 : decode cX9_transposes 1 = .ok (.istore_n 2, 1) := by decide +kernel
theorem dX9_transposes_2 : decode cX9_transposes 2 = .ok (.iload_n 2, 1) := by decide +kernel
theorem dX9_transposes_3 : decode cX9_transposes 3 = .ok (.bipush 6, 2) := by decide +kernel
theorem dX9_transposes_5 : decode cX9_transposes 5 = .ok (.if_icmp .ge 54, 3) := by decide +kernel
theorem dX9_transposes_8 : decode cX9_transposes 8 = .ok (.iconst 0, 1) := by decide +kernel
theorem dX9_transposes_9 : decode cX9_transposes 9 = .ok (.istore_n 3, 1) := by decide +kernel
theorem dX9_transposes_10 : decode cX9_transposes 10 = .ok (.iload_n 3, 1) := by decide +kernel
theorem dX9_transposes_11 : decode cX9_transposes 11 = .ok (.iload_n 2, 1) := by decide +kernel
theorem dX9_transposes_12 : decode cX9_transposes 12 = .ok (.if_icmp .ge 41, 3) := by decide +kernel
theorem dX9_transposes_15 : decode cX9_transposes 15 = .ok (.aload_n 0, 1) := by decide +kernel
theorem dX9_transposes_16 : decode cX9_transposes 16 = .ok (.iload_n 1, 1) := by decide +kernel
theorem dX9_transposes_17 : decode cX9_transposes 17 = .ok (.iload_n 2, 1) := by decide +kernel
theorem dX9_transposes_18 : decode cX9_transposes 18 = .ok (.iload_n 3, 1) := by decide +kernel
theorem dX9_transposes_19 : decode cX9_transposes 19 = .ok (.invokevirtual 73, 3) := by decide +kernel
theorem dX9_transposes_22 : decode cX9_transposes 22 = .ok (.istore 4, 2) := by decide +kernel
theorem dX9_transposes_24 : decode cX9_transposes 24 = .ok (.aload_n 0, 1) := by decide +kernel
theorem dX9_transposes_25 : decode cX9_transposes 25 = .ok (.iload_n 1, 1) := by decide +kernel
theorem dX9_transposes_26 : decode cX9_transposes 26 = .ok (.iload_n 2, 1) := by decide +kernel
theorem dX9_transposes_27 : decode cX9_transposes 27 = .ok (.iload_n 3, 1) := by decide +kernel
theorem dX9_transposes_28 : decode cX9_transposes 28 = .ok (.aload_n 0, 1) := by decide +kernel
theorem dX9_transposes_29 : decode cX9_transposes 29 = .ok (.iload_n 1, 1) := by decide +kernel
theorem dX9_transposes_30 : decode cX9_transposes 30 = .ok (.iload_n 3, 1) := by decide +kernel
theorem dX9_transposes_31 : decode cX9_transposes 31 = .ok (.iload_n 2, 1) := by decide +kernel
theorem dX9_transposes_32 : decode cX9_transposes 32 = .ok (.invokevirtual 73, 3) := by decide +kernel
theorem dX9_transposes_35 : decode cX9_transposes 35 = .ok (.invokevirtual 102, 3) := by decide +kernel
theorem dX9_transposes_38 : decode cX9_transposes 38 = .ok (.aload_n 0, 1) := by decide +kernel
theorem dX9_transposes_39 : decode cX9_transposes 39 = .ok (.iload_n 1, 1) := by decide +kernel
theorem dX9_transposes_40 : decode cX9_transposes 40 = .ok (.iload_n 3, 1) := by decide +kernel
theorem dX9_transposes_41 : decode cX9_transposes 41 = .ok (.iload_n 2, 1) := by decide +kernel
theorem dX9_transposes_42 : decode cX9_transposes 42 = .ok (.iload 4, 2) := by decide +kernel
theorem dX9_transposes_44 : decode cX9_transposes 44 = .ok (.invokevirtual 102, 3) := by decide +kernel
theorem dX9_transposes_47 : decode cX9_transposes 47 = .ok (.iinc 3 1, 3) := by decide +kernel
theorem dX9_transposes_50 : decode cX9_transposes 50 = .ok (.goto (-40), 3) := by decide +kernel
theorem dX9_transposes_53 : decode cX9_transposes 53 = .ok (.iinc 2 1, 3) := by decide +kernel
theorem dX9_transposes_56 : decode cX9_transposes 56 = .ok (.goto (-54), 3) := by decide +kernel
theorem dX9_transposes_59 : decode cX9_transposes 59 = .ok (.aload_n 0, 1) := by decide +kernel
theorem dX9_transposes_60 : decode cX9_transposes 60 = .ok (.iload_n 1, 1) := by decide +kernel
theorem dX9_transposes_61 : decode cX9_transposes 61 = .ok (.iconst 1, 1) := by decide +kernel
theorem dX9_transposes_62 : decode cX9_transposes 62 = .ok (.invokevirtual 61, 3) := by decide +kernel
theorem dX9_transposes_65 : decode cX9_transposes 65 = .ok (.istore_n 2, 1) := by decide +kernel
theorem dX9_transposes_66 : decode cX9_transposes 66 = .ok (.aload_n 0, 1) := by decide +kernel
theorem dX9_transposes_67 : decode cX9_transposes 67 = .ok (.iload_n 1, 1) := by decide +kernel
theorem dX9_transposes_68 : decode cX9_transposes 68 = .ok (.iconst 1, 1) := by decide +kernel
theorem dX9_transposes_69 : decode cX9_transposes 69 = .ok (.aload_n 0, 1) := by decide +kernel
theorem dX9_transposes_70 : decode cX9_transposes 70 = .ok (.iload_n 1, 1) := by decide +kernel
theorem dX9_transposes_71 : decode cX9_transposes 71 = .ok (.iconst 2, 1) := by decide +kernel
theorem dX9_transposes_72 : decode cX9_transposes 72 = .ok (.invokevirtual 61, 3) := by decide +kernel
theorem dX9_transposes_75 : decode cX9_transposes 75 = .ok (.invokevirtual 65, 3) := by decide +kernel
theorem dX9_transposes_78 : decode cX9_transposes 78 = .ok (.aload_n 0, 1) := by decide +kernel
theorem dX9_transposes_79 : decode cX9_transposes 79 = .ok (.iload_n 1, 1) := by decide +kernel
theorem dX9_transposes_80 : decode cX9_transposes 80 = .ok (.iconst 2, 1) := by decide +kernel
theorem dX9_transposes_81 : decode cX9_transposes 81 = .ok (.iload_n 2, 1) := by decide +kernel
theorem dX9_transposes_82 : decode cX9_transposes 82 = .ok (.invokevirtual 65, 3) := by decide +kernel
theorem dX9_transposes_85 : decode cX9_transposes 85 = .ok (.iload_n 2, 1) := by decide +kernel
theorem dX9_transposes_86 : decode cX9_transposes 86 = .ok (.ireturn, 1) := by decide +kernel
theorem dX9_transpose_0 : decode cX9_transpose 0 = .ok (.aload_n 0, 1) := by decide +kernel
theorem dX9_transpose_1 : decode cX9_transpose 1 = .ok (.iconst 0, 1) := by decide +kernel
theorem dX9_transpose_2 : decode cX9_transpose 2 = .ok (.putfield 1, 3) := by decide +kernel
theorem dX9_transpose_5 : decode cX9_transpose 5 = .ok (.aload_n 0, 1) := by decide +kernel
theorem dX9_transpose_6 : decode cX9_transpose 6 = .ok (.iload_n 1, 1) := by decide +kernel
theorem dX9_transpose_7 : decode cX9_transpose 7 = .ok (.invokevirtual 69, 3) := by decide +kernel
theorem dX9_transpose_10 : decode cX9_transpose 10 = .ok (.ifCond .ne 9, 3) := by decide +kernel
theorem dX9_transpose_13 : decode cX9_transpose 13 = .ok (.aload_n 0, 1) := by decide +kernel
theorem dX9_transpose_14 : decode cX9_transpose 14 = .ok (.iconst 1, 1) := by decide +kernel
theorem dX9_transpose_15 : decode cX9_transpose 15 = .ok (.invokevirtual 87, 3) := by decide +kernel
theorem dX9_transpose_18 : decode cX9_transpose 18 = .ok (.ireturn, 1) := by decide +kernel
theorem dX9_transpose_19 : decode cX9_transpose 19 = .ok (.aload_n 0, 1) := by decide +kernel
theorem dX9_transpose_20 : decode cX9_transpose 20 = .ok (.invokevirtual 90, 3) := by decide +kernel
theorem dX9_transpose_23 : decode cX9_transpose 23 = .ok (.aload_n 0, 1) := by decide +kernel
theorem dX9_transpose_24 : decode cX9_transpose 24 = .ok (.iload_n 1, 1) := by decide +kernel
theorem dX9_transpose_25 : decode cX9_transpose 25 = .ok (.invokevirtual 123, 3) := by decide +kernel
theorem dX9_transpose_28 : decode cX9_transpose 28 = .ok (.ireturn, 1) := by decide +kernel
theorem dX9_reverses_0 : decode cX9_reverses 0 = .ok (.iconst 0, 1) := by decide +kernel
theorem dX9_reverses_1 : decode cX9_reverses 1 = .ok (.istore_n 2, 1) := by decide +kernel
theorem dX9_reverses_2 : decode cX9_reverses 2 = .ok (.aload_n 0, 1) := by decide +kernel
theorem dX9_reverses_3 : decode cX9_reverses 3 = .ok (.iload_n 1, 1) := by decide +kernel
theorem dX9_reverses_4 : decode cX9_reverses 4 = .ok (.iconst 2, 1) := by decide +kernel
theorem dX9_reverses_5 : decode cX9_reverses 5 = .ok (.invokevirtual 61, 3) := by decide +kernel
theorem dX9_reverses_8 : decode cX9_reverses 8 = .ok (.istore_n 3, 1) := by decide +kernel
theorem dX9_reverses_9 : decode cX9_reverses 9 = .ok (.iconst 0, 1) := by decide +kernel
theorem dX9_reverses_10 : decode cX9_reverses 10 = .ok (.istore 4, 2) := by decide +kernel
theorem dX9_reverses_12 : decode cX9_reverses 12 = .ok (.iload 4, 2) := by decide +kernel
theorem dX9_reverses_14 : decode cX9_reverses 14 = .ok (.aload_n 0, 1) := by decide +kernel
theorem dX9_reverses_15 : decode cX9_reverses 15 = .ok (.iload_n 1, 1) := by decide +kernel
theorem dX9_reverses_16 : decode cX9_reverses 16 = .ok (.iconst 1, 1) := by decide +kernel
theorem dX9_reverses_17 : decode cX9_reverses 17 = .ok (.invokevirtual 61, 3) := by decide +kernel
theorem dX9_reverses_20 : decode cX9_reverses 20 = .ok (.if_icmp .ge 95, 3) := by decide +kernel
theorem dX9_reverses_23 : decode cX9_reverses 23 = .ok (.iconst 0, 1) := by decide +kernel
theorem dX9_reverses_24 : decode cX9_reverses 24 = .ok (.istore 5, 2) := by decide +kernel
theorem dX9_reverses_26 : decode cX9_reverses 26 = .ok (.iconst 2, 1) := by decide +kernel
theorem dX9_reverses_27 : decode cX9_reverses 27 = .ok (.iload 5, 2) := by decide +kernel
theorem dX9_reverses_29 : decode cX9_reverses 29 = .ok (.imul, 1) := by decide +kernel
theorem dX9_reverses_30 : decode cX9_reverses 30 = .ok (.iconst 1, 1) := by decide +kernel
theorem dX9_reverses_31 : decode cX9_reverses 31 = .ok (.iadd, 1) := by decide +kernel
theorem dX9_reverses_32 : decode cX9_reverses 32 = .ok (.iload_n 3, 1) := by decide +kernel
theorem dX9_reverses_33 : decode cX9_reverses 33 = .ok (.if_icmp .ge 76, 3) := by decide +kernel
theorem dX9_reverses_36 : decode cX9_reverses 36 = .ok (.aload_n 0, 1) := by decide +kernel
theorem dX9_reverses_37 : decode cX9_reverses 37 = .ok (.iload_n 1, 1) := by decide +kernel
theorem dX9_reverses_38 : decode cX9_reverses 38 = .ok (.iload 4, 2) := by decide +kernel
theorem dX9_reverses_40 : decode cX9_reverses 40 = .ok (.iload 5, 2) := by decide +kernel
theorem dX9_reverses_42 : decode cX9_reverses 42 = .ok (.invokevirtual 73, 3) := by decide +kernel
theorem dX9_reverses_45 : decode cX9_reverses 45 = .ok (.istore 6, 2) := by decide +kernel
theorem dX9_reverses_47 : decode cX9_reverses 47 = .ok (.aload_n 0, 1) := by decide +kernel
theorem dX9_reverses_48 : decode cX9_reverses 48 = .ok (.iload_n 1, 1) := by decide +kernel
theorem dX9_reverses_49 : decode cX9_reverses 49 = .ok (.iload 4, 2) := by decide +kernel
theorem dX9_reverses_51 : decode cX9_reverses 51 = .ok (.iload_n 3, 1) := by decide +kernel
theorem dX9_reverses_52 : decode cX9_reverses 52 = .ok (.iconst 1, 1) := by decide +kernel
theorem dX9_reverses_53 : decode cX9_reverses 53 = .ok (.isub, 1) := by decide +kernel
theorem dX9_reverses_54 : decode cX9_reverses 54 = .ok (.iload 5, 2) := by decide +kernel
theorem dX9_reverses_56 : decode cX9_reverses 56 = .ok (.isub, 1) := by decide +kernel
theorem dX9_reverses_57 : decode cX9_reverses 57 = .ok (.invokevirtual 73, 3) := by decide +kernel
theorem dX9_reverses_60 : decode cX9_reverses 60 = .ok (.istore 7, 2) := by decide +kernel
theorem dX9_reverses_62 : decode cX9_reverses 62 = .ok (.aload_n 0, 1) := by decide +kernel
theorem dX9_reverses_63 : decode cX9_reverses 63 = .ok (.iload_n 1, 1) := by decide +kernel
theorem dX9_reverses_64 : decode cX9_reverses 64 = .ok (.iload 4, 2) := by decide +kernel
theorem dX9_reverses_66 : decode cX9_reverses 66 = .ok (.iload 5, 2) := by decide +kernel
theorem dX9_reverses_68 : decode cX9_reverses 68 = .ok (.iload 7, 2) := by decide +kernel
theorem dX9_reverses_70 : decode cX9_reverses 70 = .ok (.invokevirtual 102, 3) := by decide +kernel
theorem dX9_reverses_73 : decode cX9_reverses 73 = .ok (.aload_n 0, 1) := by decide +kernel
theorem dX9_reverses_74 : decode cX9_reverses 74 = .ok (.iload_n 1, 1) := by decide +kernel
theorem dX9_reverses_75 : decode cX9_reverses 75 = .ok (.iload 4, 2) := by decide +kernel
theorem dX9_reverses_77 : decode cX9_reverses 77 = .ok (.iload_n 3, 1) := by decide +kernel
theorem dX9_reverses_78 : decode cX9_reverses 78 = .ok (.iconst 1, 1) := by decide +kernel
theorem dX9_reverses_79 : decode cX9_reverses 79 = .ok (.isub, 1) := by decide +kernel
theorem dX9_reverses_80 : decode cX9_reverses 80 = .ok (.iload 5, 2) := by decide +kernel
theorem dX9_reverses_82 : decode cX9_reverses 82 = .ok (.isub, 1) := by decide +kernel
theorem dX9_reverses_83 : decode cX9_reverses 83 = .ok (.iload 6, 2) := by decide +kernel
theorem dX9_reverses_85 : decode cX9_reverses 85 = .ok (.invokevirtual 102, 3) := by decide +kernel
theorem dX9_reverses_88 : decode cX9_reverses 88 = .ok (.iload_n 2, 1) := by decide +kernel
theorem dX9_reverses_89 : decode cX9_reverses 89 = .ok (.iload 6, 2) := by decide +kernel
theorem dX9_reverses_91 : decode cX9_reverses 91 = .ok (.iload 7, 2) := by decide +kernel
theorem dX9_reverses_93 : decode cX9_reverses 93 = .ok (.if_icmp .ne 7, 3) := by decide +kernel
theorem dX9_reverses_96 : decode cX9_reverses 96 = .ok (.iconst 0, 1) := by decide +kernel
theorem dX9_reverses_97 : decode cX9_reverses 97 = .ok (.goto 4, 3) := by decide +kernel
theorem dX9_reverses_100 : decode cX9_reverses 100 = .ok (.iconst 2, 1) := by decide +kernel
theorem dX9_reverses_101 : decode cX9_reverses 101 = .ok (.iadd, 1) := by decide +kernel
theorem dX9_reverses_102 : decode cX9_reverses 102 = .ok (.istore_n 2, 1) := by decide +kernel
theorem dX9_reverses_103 : decode cX9_reverses 103 = .ok (.iinc 5 1, 3) := by decide +kernel
theorem dX9_reverses_106 : decode cX9_reverses 106 = .ok (.goto (-80), 3) := by decide +kernel
theorem dX9_reverses_109 : decode cX9_reverses 109 = .ok (.iinc 4 1, 3) := by decide +kernel
theorem dX9_reverses_112 : decode cX9_reverses 112 = .ok (.goto (-100), 3) := by decide +kernel
theorem dX9_reverses_115 : decode cX9_reverses 115 = .ok (.iload_n 2, 1) := by decide +kernel
theorem dX9_reverses_116 : decode cX9_reverses 116 = .ok (.ireturn, 1) := by decide +kernel
theorem dX9_reverse_0 : decode cX9_reverse 0 = .ok (.aload_n 0, 1) := by decide +kernel
theorem dX9_reverse_1 : decode cX9_reverse 1 = .ok (.iconst 0, 1) := by decide +kernel
theorem dX9_reverse_2 : decode cX9_reverse 2 = .ok (.putfield 1, 3) := by decide +kernel
theorem dX9_reverse_5 : decode cX9_reverse 5 = .ok (.aload_n 0, 1) := by decide +kernel
theorem dX9_reverse_6 : decode cX9_reverse 6 = .ok (.iload_n 1, 1) := by decide +kernel
theorem dX9_reverse_7 : decode cX9_reverse 7 = .ok (.invokevirtual 69, 3) := by decide +kernel
theorem dX9_reverse_10 : decode cX9_reverse 10 = .ok (.ifCond .ne 9, 3) := by decide +kernel
theorem dX9_reverse_13 : decode cX9_reverse 13 = .ok (.aload_n 0, 1) := by decide +kernel
theorem dX9_reverse_14 : decode cX9_reverse 14 = .ok (.iconst 1, 1) := by decide +kernel
theorem dX9_reverse_15 : decode cX9_reverse 15 = .ok (.invokevirtual 87, 3) := by decide +kernel
theorem dX9_reverse_18 : decode cX9_reverse 18 = .ok (.ireturn, 1) := by decide +kernel
theorem dX9_reverse_19 : decode cX9_reverse 19 = .ok (.aload_n 0, 1) := by decide +kernel
theorem dX9_reverse_20 : decode cX9_reverse 20 = .ok (.invokevirtual 90, 3) := by decide +kernel
theorem dX9_reverse_23 : decode cX9_reverse 23 = .ok (.aload_n 0, 1) := by decide +kernel
theorem dX9_reverse_24 : decode cX9_reverse 24 = .ok (.iload_n 1, 1) := by decide +kernel
theorem dX9_reverse_25 : decode cX9_reverse 25 = .ok (.invokevirtual 126, 3) := by decide +kernel
theorem dX9_reverse_28 : decode cX9_reverse 28 = .ok (.ireturn, 1) := by decide +kernel
theorem dX9_notRaise_0 : decode cX9_notRaise 0 = .ok (.aload_n 0, 1) := by decide +kernel
theorem dX9_notRaise_1 : decode cX9_notRaise 1 = .ok (.iload_n 1, 1) := by decide +kernel
theorem dX9_notRaise_2 : decode cX9_notRaise 2 = .ok (.invokevirtual 69, 3) := by decide +kernel
theorem dX9_notRaise_5 : decode cX9_notRaise 5 = .ok (.ifCond .ne 5, 3) := by decide +kernel
theorem dX9_notRaise_8 : decode cX9_notRaise 8 = .ok (.iconst 1, 1) := by decide +kernel
theorem dX9_notRaise_9 : decode cX9_notRaise 9 = .ok (.ireturn, 1) := by decide +kernel
theorem dX9_notRaise_10 : decode cX9_notRaise 10 = .ok (.iload_n 2, 1) := by decide +kernel
theorem dX9_notRaise_11 : decode cX9_notRaise 11 = .ok (.bipush (-9), 2) := by decide +kernel
theorem dX9_notRaise_13 : decode cX9_notRaise 13 = .ok (.bipush 9, 2) := by decide +kernel
theorem dX9_notRaise_15 : decode cX9_notRaise 15 = .ok (.invokestatic 57, 3) := by decide +kernel
theorem dX9_notRaise_18 : decode cX9_notRaise 18 = .ok (.ifCond .ne 5, 3) := by decide +kernel
theorem dX9_notRaise_21 : decode cX9_notRaise 21 = .ok (.iconst 2, 1) := by decide +kernel
theorem dX9_notRaise_22 : decode cX9_notRaise 22 = .ok (.ireturn, 1) := by decide +kernel
theorem dX9_notRaise_23 : decode cX9_notRaise 23 = .ok (.bipush 7, 2) := by decide +kernel
theorem dX9_notRaise_25 : decode cX9_notRaise 25 = .ok (.istore_n 3, 1) := by decide +kernel
theorem dX9_notRaise_26 : decode cX9_notRaise 26 = .ok (.iload_n 3, 1) := by decide +kernel
theorem dX9_notRaise_27 : decode cX9_notRaise 27 = .ok (.bipush 43, 2) := by decide +kernel
theorem dX9_notRaise_29 : decode cX9_notRaise 29 = .ok (.if_icmp .ge 37, 3) := by decide +kernel
theorem dX9_notRaise_32 : decode cX9_notRaise 32 = .ok (.aload_n 0, 1) := by decide +kernel
theorem dX9_notRaise_33 : decode cX9_notRaise 33 = .ok (.iload_n 1, 1) := by decide +kernel
theorem dX9_notRaise_34 : decode cX9_notRaise 34 = .ok (.iload_n 3, 1) := by decide +kernel
theorem dX9_notRaise_35 : decode cX9_notRaise 35 = .ok (.invokevirtual 61, 3) := by decide +kernel
theorem dX9_notRaise_38 : decode cX9_notRaise 38 = .ok (.ifCond .eq 22, 3) := by decide +kernel
theorem dX9_notRaise_41 : decode cX9_notRaise 41 = .ok (.aload_n 0, 1) := by decide +kernel
theorem dX9_notRaise_42 : decode cX9_notRaise 42 = .ok (.iload_n 1, 1) := by decide +kernel
theorem dX9_notRaise_43 : decode cX9_notRaise 43 = .ok (.iload_n 3, 1) := by decide +kernel
theorem dX9_notRaise_44 : decode cX9_notRaise 44 = .ok (.invokevirtual 61, 3) := by decide +kernel
theorem dX9_notRaise_47 : decode cX9_notRaise 47 = .ok (.iload_n 2, 1) := by decide +kernel
theorem dX9_notRaise_48 : decode cX9_notRaise 48 = .ok (.iadd, 1) := by decide +kernel
theorem dX9_notRaise_49 : decode cX9_notRaise 49 = .ok (.iconst 1, 1) := by decide +kernel
theorem dX9_notRaise_50 : decode cX9_notRaise 50 = .ok (.bipush 9, 2) := by decide +kernel
theorem dX9_notRaise_52 : decode cX9_notRaise 52 = .ok (.invokestatic 57, 3) := by decide +kernel
theorem dX9_notRaise_55 : decode cX9_notRaise 55 = .ok (.ifCond .ne 5, 3) := by decide +kernel
theorem dX9_notRaise_58 : decode cX9_notRaise 58 = .ok (.iconst 3, 1) := by decide +kernel
theorem dX9_notRaise_59 : decode cX9_notRaise 59 = .ok (.ireturn, 1) := by decide +kernel
theorem dX9_notRaise_60 : decode cX9_notRaise 60 = .ok (.iinc 3 1, 3) := by decide +kernel
theorem dX9_notRaise_63 : decode cX9_notRaise 63 = .ok (.goto (-37), 3) := by decide +kernel
theorem dX9_notRaise_66 : decode cX9_notRaise 66 = .ok (.iconst 0, 1) := by decide +kernel
theorem dX9_notRaise_67 : decode cX9_notRaise 67 = .ok (.ireturn, 1) := by decide +kernel
theorem dX9_raises_0 : decode cX9_raises 0 = .ok (.iconst 0, 1) := by decide +kernel
theorem dX9_raises_1 : decode cX9_raises 1 = .ok (.istore_n 3, 1) := by decide +kernel
theorem dX9_raises_2 : decode cX9_raises 2 = .ok (.bipush 7, 2) := by decide +kernel
theorem dX9_raises_4 : decode cX9_raises 4 = .ok (.istore 4, 2) := by decide +kernel
theorem dX9_raises_6 : decode cX9_raises 6 = .ok (.iload 4, 2) := by decide +kernel
theorem dX9_raises_8 : decode cX9_raises 8 = .ok (.bipush 43, 2) := by decide +kernel
theorem dX9_raises_10 : decode cX9_raises 10 = .ok (.if_icmp .ge 41, 3) := by decide +kernel
theorem dX9_raises_13 : decode cX9_raises 13 = .ok (.aload_n 0, 1) := by decide +kernel
theorem dX9_raises_14 : decode cX9_raises 14 = .ok (.iload_n 1, 1) := by decide +kernel
theorem dX9_raises_15 : decode cX9_raises 15 = .ok (.iload 4, 2) := by decide +kernel
theorem dX9_raises_17 : decode cX9_raises 17 = .ok (.invokevirtual 61, 3) := by decide +kernel
theorem dX9_raises_20 : decode cX9_raises 20 = .ok (.ifCond .ne 6, 3) := by decide +kernel
theorem dX9_raises_23 : decode cX9_raises 23 = .ok (.goto 22, 3) := by decide +kernel
theorem dX9_raises_26 : decode cX9_raises 26 = .ok (.aload_n 0, 1) := by decide +kernel
theorem dX9_raises_27 : decode cX9_raises 27 = .ok (.iload_n 1, 1) := by decide +kernel
theorem dX9_raises_28 : decode cX9_raises 28 = .ok (.iload 4, 2) := by decide +kernel
theorem dX9_raises_30 : decode cX9_raises 30 = .ok (.aload_n 0, 1) := by decide +kernel
theorem dX9_raises_31 : decode cX9_raises 31 = .ok (.iload_n 1, 1) := by decide +kernel
theorem dX9_raises_32 : decode cX9_raises 32 = .ok (.iload 4, 2) := by decide +kernel
theorem dX9_raises_34 : decode cX9_raises 34 = .ok (.invokevirtual 61, 3) := by decide +kernel
theorem dX9_raises_37 : decode cX9_raises 37 = .ok (.iload_n 2, 1) := by decide +kernel
theorem dX9_raises_38 : decode cX9_raises 38 = .ok (.iadd, 1) := by decide +kernel
theorem dX9_raises_39 : decode cX9_raises 39 = .ok (.invokevirtual 65, 3) := by decide +kernel
theorem dX9_raises_42 : decode cX9_raises 42 = .ok (.iinc 3 1, 3) := by decide +kernel
theorem dX9_raises_45 : decode cX9_raises 45 = .ok (.iinc 4 1, 3) := by decide +kernel
theorem dX9_raises_48 : decode cX9_raises 48 = .ok (.goto (-42), 3) := by decide +kernel
theorem dX9_raises_51 : decode cX9_raises 51 = .ok (.iload_n 3, 1) := by decide +kernel
theorem dX9_raises_52 : decode cX9_raises 52 = .ok (.ireturn, 1) := by decide +kernel
theorem dX9_raise_0 : decode cX9_raise 0 = .ok (.aload_n 0, 1) := by decide +kernel
theorem dX9_raise_1 : decode cX9_raise 1 = .ok (.iconst 0, 1) := by decide +kernel
theorem dX9_raise_2 : decode cX9_raise 2 = .ok (.putfield 1, 3) := by decide +kernel
theorem dX9_raise_5 : decode cX9_raise 5 = .ok (.aload_n 0, 1) := by decide +kernel
theorem dX9_raise_6 : decode cX9_raise 6 = .ok (.iload_n 1, 1) := by decide +kernel
theorem dX9_raise_7 : decode cX9_raise 7 = .ok (.iload_n 2, 1) := by decide +kernel
theorem dX9_raise_8 : decode cX9_raise 8 = .ok (.invokevirtual 129, 3) := by decide +kernel
theorem dX9_raise_11 : decode cX9_raise 11 = .ok (.istore_n 3, 1) := by decide +kernel
theorem dX9_raise_12 : decode cX9_raise 12 = .ok (.iload_n 3, 1) := by decide +kernel
theorem dX9_raise_13 : decode cX9_raise 13 = .ok (.ifCond .eq 9, 3) := by decide +kernel
theorem dX9_raise_16 : decode cX9_raise 16 = .ok (.aload_n 0, 1) := by decide +kernel
theorem dX9_raise_17 : decode cX9_raise 17 = .ok (.iload_n 3, 1) := by decide +kernel
theorem dX9_raise_18 : decode cX9_raise 18 = .ok (.invokevirtual 87, 3) := by decide +kernel
theorem dX9_raise_21 : decode cX9_raise 21 = .ok (.ireturn, 1) := by decide +kernel
theorem dX9_raise_22 : decode cX9_raise 22 = .ok (.aload_n 0, 1) := by decide +kernel
theorem dX9_raise_23 : decode cX9_raise 23 = .ok (.invokevirtual 90, 3) := by decide +kernel
theorem dX9_raise_26 : decode cX9_raise 26 = .ok (.aload_n 0, 1) := by decide +kernel
theorem dX9_raise_27 : decode cX9_raise 27 = .ok (.iload_n 1, 1) := by decide +kernel
theorem dX9_raise_28 : decode cX9_raise 28 = .ok (.iload_n 2, 1) := by decide +kernel
theorem dX9_raise_29 : decode cX9_raise 29 = .ok (.invokevirtual 132, 3) := by decide +kernel
theorem dX9_raise_32 : decode cX9_raise 32 = .ok (.ireturn, 1) := by decide +kernel
theorem dX9_notTempo_0 : decode cX9_notTempo 0 = .ok (.iload_n 0, 1) := by decide +kernel
theorem dX9_notTempo_1 : decode cX9_notTempo 1 = .ok (.iconst 1, 1) := by decide +kernel
theorem dX9_notTempo_2 : decode cX9_notTempo 2 = .ok (.iconst 5, 1) := by decide +kernel
theorem dX9_notTempo_3 : decode cX9_notTempo 3 = .ok (.invokestatic 57, 3) := by decide +kernel
theorem dX9_notTempo_6 : decode cX9_notTempo 6 = .ok (.ifCond .eq 7, 3) := by decide +kernel
theorem dX9_notTempo_9 : decode cX9_notTempo 9 = .ok (.iconst 0, 1) := by decide +kernel
theorem dX9_notTempo_10 : decode cX9_notTempo 10 = .ok (.goto 4, 3) := by decide +kernel
theorem dX9_notTempo_13 : decode cX9_notTempo 13 = .ok (.iconst 1, 1) := by decide +kernel
theorem dX9_notTempo_14 : decode cX9_notTempo 14 = .ok (.ireturn, 1) := by decide +kernel
theorem dX9_sets_0 : decode cX9_sets 0 = .ok (.aload_n 0, 1) := by decide +kernel
theorem dX9_sets_1 : decode cX9_sets 1 = .ok (.getfield 13, 3) := by decide +kernel
theorem dX9_sets_4 : decode cX9_sets 4 = .ok (.iload_n 1, 1) := by decide +kernel
theorem dX9_sets_5 : decode cX9_sets 5 = .ok (.iaload, 1) := by decide +kernel
theorem dX9_sets_6 : decode cX9_sets 6 = .ok (.istore_n 3, 1) := by decide +kernel
theorem dX9_sets_7 : decode cX9_sets 7 = .ok (.aload_n 0, 1) := by decide +kernel
theorem dX9_sets_8 : decode cX9_sets 8 = .ok (.getfield 13, 3) := by decide +kernel
theorem dX9_sets_11 : decode cX9_sets 11 = .ok (.iload_n 1, 1) := by decide +kernel
theorem dX9_sets_12 : decode cX9_sets 12 = .ok (.iload_n 2, 1) := by decide +kernel
theorem dX9_sets_13 : decode cX9_sets 13 = .ok (.iastore, 1) := by decide +kernel
theorem dX9_sets_14 : decode cX9_sets 14 = .ok (.iload_n 3, 1) := by decide +kernel
theorem dX9_sets_15 : decode cX9_sets 15 = .ok (.ireturn, 1) := by decide +kernel
theorem dX9_setTempo_0 : decode cX9_setTempo 0 = .ok (.aload_n 0, 1) := by decide +kernel
theorem dX9_setTempo_1 : decode cX9_setTempo 1 = .ok (.iconst 0, 1) := by decide +kernel
theorem dX9_setTempo_2 : decode cX9_setTempo 2 = .ok (.putfield 1, 3) := by decide +kernel
theorem dX9_setTempo_5 : decode cX9_setTempo 5 = .ok (.iload_n 1, 1) := by decide +kernel
theorem dX9_setTempo_6 : decode cX9_setTempo 6 = .ok (.invokestatic 135, 3) := by decide +kernel
theorem dX9_setTempo_9 : decode cX9_setTempo 9 = .ok (.ifCond .eq 9, 3) := by decide +kernel
theorem dX9_setTempo_12 : decode cX9_setTempo 12 = .ok (.aload_n 0, 1) := by decide +kernel
theorem dX9_setTempo_13 : decode cX9_setTempo 13 = .ok (.iconst 1, 1) := by decide +kernel
theorem dX9_setTempo_14 : decode cX9_setTempo 14 = .ok (.invokevirtual 87, 3) := by decide +kernel
theorem dX9_setTempo_17 : decode cX9_setTempo 17 = .ok (.ireturn, 1) := by decide +kernel
theorem dX9_setTempo_18 : decode cX9_setTempo 18 = .ok (.aload_n 0, 1) := by decide +kernel
theorem dX9_setTempo_19 : decode cX9_setTempo 19 = .ok (.invokevirtual 90, 3) := by decide +kernel
theorem dX9_setTempo_22 : decode cX9_setTempo 22 = .ok (.aload_n 0, 1) := by decide +kernel
theorem dX9_setTempo_23 : decode cX9_setTempo 23 = .ok (.iconst 2, 1) := by decide +kernel
theorem dX9_setTempo_24 : decode cX9_setTempo 24 = .ok (.iload_n 1, 1) := by decide +kernel
theorem dX9_setTempo_25 : decode cX9_setTempo 25 = .ok (.invokevirtual 138, 3) := by decide +kernel
theorem dX9_setTempo_28 : decode cX9_setTempo 28 = .ok (.ireturn, 1) := by decide +kernel
theorem dX9_notLimit_0 : decode cX9_notLimit 0 = .ok (.iload_n 0, 1) := by decide +kernel
theorem dX9_notLimit_1 : decode cX9_notLimit 1 = .ok (.iconst 1, 1) := by decide +kernel
theorem dX9_notLimit_2 : decode cX9_notLimit 2 = .ok (.bipush 99, 2) := by decide +kernel
theorem dX9_notLimit_4 : decode cX9_notLimit 4 = .ok (.invokestatic 57, 3) := by decide +kernel
theorem dX9_notLimit_7 : decode cX9_notLimit 7 = .ok (.ifCond .eq 7, 3) := by decide +kernel
theorem dX9_notLimit_10 : decode cX9_notLimit 10 = .ok (.iconst 0, 1) := by decide +kernel
theorem dX9_notLimit_11 : decode cX9_notLimit 11 = .ok (.goto 4, 3) := by decide +kernel
theorem dX9_notLimit_14 : decode cX9_notLimit 14 = .ok (.iconst 1, 1) := by decide +kernel
theorem dX9_notLimit_15 : decode cX9_notLimit 15 = .ok (.ireturn, 1) := by decide +kernel
theorem dX9_setLimit_0 : decode cX9_setLimit 0 = .ok (.aload_n 0, 1) := by decide +kernel
theorem dX9_setLimit_1 : decode cX9_setLimit 1 = .ok (.iconst 0, 1) := by decide +kernel
theorem dX9_setLimit_2 : decode cX9_setLimit 2 = .ok (.putfield 1, 3) := by decide +kernel
theorem dX9_setLimit_5 : decode cX9_setLimit 5 = .ok (.iload_n 1, 1) := by decide +kernel
theorem dX9_setLimit_6 : decode cX9_setLimit 6 = .ok (.invokestatic 141, 3) := by decide +kernel
theorem dX9_setLimit_9 : decode cX9_setLimit 9 = .ok (.ifCond .eq 9, 3) := by decide +kernel
theorem dX9_setLimit_12 : decode cX9_setLimit 12 = .ok (.aload_n 0, 1) := by decide +kernel
theorem dX9_setLimit_13 : decode cX9_setLimit 13 = .ok (.iconst 1, 1) := by decide +kernel
theorem dX9_setLimit_14 : decode cX9_setLimit 14 = .ok (.invokevirtual 87, 3) := by decide +kernel
theorem dX9_setLimit_17 : decode cX9_setLimit 17 = .ok (.ireturn, 1) := by decide +kernel
theorem dX9_setLimit_18 : decode cX9_setLimit 18 = .ok (.aload_n 0, 1) := by decide +kernel
theorem dX9_setLimit_19 : decode cX9_setLimit 19 = .ok (.invokevirtual 90, 3) := by decide +kernel
theorem dX9_setLimit_22 : decode cX9_setLimit 22 = .ok (.aload_n 0, 1) := by decide +kernel
theorem dX9_setLimit_23 : decode cX9_setLimit 23 = .ok (.iconst 3, 1) := by decide +kernel
theorem dX9_setLimit_24 : decode cX9_setLimit 24 = .ok (.iload_n 1, 1) := by decide +kernel
theorem dX9_setLimit_25 : decode cX9_setLimit 25 = .ok (.invokevirtual 138, 3) := by decide +kernel
theorem dX9_setLimit_28 : decode cX9_setLimit 28 = .ok (.ireturn, 1) := by decide +kernel
theorem dX9_columnNow_0 : decode cX9_columnNow 0 = .ok (.aload_n 0, 1) := by decide +kernel
theorem dX9_columnNow_1 : decode cX9_columnNow 1 = .ok (.getfield 13, 3) := by decide +kernel
theorem dX9_columnNow_4 : decode cX9_columnNow 4 = .ok (.iconst 1, 1) := by decide +kernel
theorem dX9_columnNow_5 : decode cX9_columnNow 5 = .ok (.iaload, 1) := by decide +kernel
theorem dX9_columnNow_6 : decode cX9_columnNow 6 = .ok (.aload_n 0, 1) := by decide +kernel
theorem dX9_columnNow_7 : decode cX9_columnNow 7 = .ok (.iload_n 1, 1) := by decide +kernel
theorem dX9_columnNow_8 : decode cX9_columnNow 8 = .ok (.iconst 2, 1) := by decide +kernel
theorem dX9_columnNow_9 : decode cX9_columnNow 9 = .ok (.invokevirtual 61, 3) := by decide +kernel
theorem dX9_columnNow_12 : decode cX9_columnNow 12 = .ok (.irem, 1) := by decide +kernel
theorem dX9_columnNow_13 : decode cX9_columnNow 13 = .ok (.ireturn, 1) := by decide +kernel
theorem dX9_plays_0 : decode cX9_plays 0 = .ok (.aload_n 0, 1) := by decide +kernel
theorem dX9_plays_1 : decode cX9_plays 1 = .ok (.iload_n 1, 1) := by decide +kernel
theorem dX9_plays_2 : decode cX9_plays 2 = .ok (.iconst 5, 1) := by decide +kernel
theorem dX9_plays_3 : decode cX9_plays 3 = .ok (.invokevirtual 61, 3) := by decide +kernel
theorem dX9_plays_6 : decode cX9_plays 6 = .ok (.ifCond .ne 20, 3) := by decide +kernel
theorem dX9_plays_9 : decode cX9_plays 9 = .ok (.aload_n 0, 1) := by decide +kernel
theorem dX9_plays_10 : decode cX9_plays 10 = .ok (.iload_n 1, 1) := by decide +kernel
theorem dX9_plays_11 : decode cX9_plays 11 = .ok (.aload_n 0, 1) := by decide +kernel
theorem dX9_plays_12 : decode cX9_plays 12 = .ok (.iload_n 1, 1) := by decide +kernel
theorem dX9_plays_13 : decode cX9_plays 13 = .ok (.invokevirtual 144, 3) := by decide +kernel
theorem dX9_plays_16 : decode cX9_plays 16 = .ok (.invokevirtual 113, 3) := by decide +kernel
theorem dX9_plays_19 : decode cX9_plays 19 = .ok (.ifCond .ne 7, 3) := by decide +kernel
theorem dX9_plays_22 : decode cX9_plays 22 = .ok (.iconst 1, 1) := by decide +kernel
theorem dX9_plays_23 : decode cX9_plays 23 = .ok (.goto 4, 3) := by decide +kernel
theorem dX9_plays_26 : decode cX9_plays 26 = .ok (.iconst 0, 1) := by decide +kernel
theorem dX9_plays_27 : decode cX9_plays 27 = .ok (.ireturn, 1) := by decide +kernel
theorem dX9_volumeNow_0 : decode cX9_volumeNow 0 = .ok (.aload_n 0, 1) := by decide +kernel
theorem dX9_volumeNow_1 : decode cX9_volumeNow 1 = .ok (.iload_n 1, 1) := by decide +kernel
theorem dX9_volumeNow_2 : decode cX9_volumeNow 2 = .ok (.invokevirtual 147, 3) := by decide +kernel
theorem dX9_volumeNow_5 : decode cX9_volumeNow 5 = .ok (.ifCond .eq 16, 3) := by decide +kernel
theorem dX9_volumeNow_8 : decode cX9_volumeNow 8 = .ok (.aload_n 0, 1) := by decide +kernel
theorem dX9_volumeNow_9 : decode cX9_volumeNow 9 = .ok (.iload_n 1, 1) := by decide +kernel
theorem dX9_volumeNow_10 : decode cX9_volumeNow 10 = .ok (.aload_n 0, 1) := by decide +kernel
theorem dX9_volumeNow_11 : decode cX9_volumeNow 11 = .ok (.iload_n 1, 1) := by decide +kernel
theorem dX9_volumeNow_12 : decode cX9_volumeNow 12 = .ok (.invokevirtual 144, 3) := by decide +kernel
theorem dX9_volumeNow_15 : decode cX9_volumeNow 15 = .ok (.invokevirtual 150, 3) := by decide +kernel
theorem dX9_volumeNow_18 : decode cX9_volumeNow 18 = .ok (.goto 4, 3) := by decide +kernel
theorem dX9_volumeNow_21 : decode cX9_volumeNow 21 = .ok (.iconst 0, 1) := by decide +kernel
theorem dX9_volumeNow_22 : decode cX9_volumeNow 22 = .ok (.ireturn, 1) := by decide +kernel
theorem dX9_sounds_0 : decode cX9_sounds 0 = .ok (.iconst 0, 1) := by decide +kernel
theorem dX9_sounds_1 : decode cX9_sounds 1 = .ok (.istore_n 3, 1) := by decide +kernel
theorem dX9_sounds_2 : decode cX9_sounds 2 = .ok (.iload_n 3, 1) := by decide +kernel
theorem dX9_sounds_3 : decode cX9_sounds 3 = .ok (.aload_n 0, 1) := by decide +kernel
theorem dX9_sounds_4 : decode cX9_sounds 4 = .ok (.iload_n 1, 1) := by decide +kernel
theorem dX9_sounds_5 : decode cX9_sounds 5 = .ok (.iconst 1, 1) := by decide +kernel
theorem dX9_sounds_6 : decode cX9_sounds 6 = .ok (.invokevirtual 61, 3) := by decide +kernel
theorem dX9_sounds_9 : decode cX9_sounds 9 = .ok (.if_icmp .ge 49, 3) := by decide +kernel
theorem dX9_sounds_12 : decode cX9_sounds 12 = .ok (.aload_n 0, 1) := by decide +kernel
theorem dX9_sounds_13 : decode cX9_sounds 13 = .ok (.iload_n 1, 1) := by decide +kernel
theorem dX9_sounds_14 : decode cX9_sounds 14 = .ok (.iload_n 3, 1) := by decide +kernel
theorem dX9_sounds_15 : decode cX9_sounds 15 = .ok (.iload_n 2, 1) := by decide +kernel
theorem dX9_sounds_16 : decode cX9_sounds 16 = .ok (.invokevirtual 73, 3) := by decide +kernel
theorem dX9_sounds_19 : decode cX9_sounds 19 = .ok (.istore 4, 2) := by decide +kernel
theorem dX9_sounds_21 : decode cX9_sounds 21 = .ok (.iload 4, 2) := by decide +kernel
theorem dX9_sounds_23 : decode cX9_sounds 23 = .ok (.ifCond .le 29, 3) := by decide +kernel
theorem dX9_sounds_26 : decode cX9_sounds 26 = .ok (.aload_n 0, 1) := by decide +kernel
theorem dX9_sounds_27 : decode cX9_sounds 27 = .ok (.getfield 13, 3) := by decide +kernel
theorem dX9_sounds_30 : decode cX9_sounds 30 = .ok (.bipush 18, 2) := by decide +kernel
theorem dX9_sounds_32 : decode cX9_sounds 32 = .ok (.bipush 9, 2) := by decide +kernel
theorem dX9_sounds_34 : decode cX9_sounds 34 = .ok (.aload_n 0, 1) := by decide +kernel
theorem dX9_sounds_35 : decode cX9_sounds 35 = .ok (.iload_n 1, 1) := by decide +kernel
theorem dX9_sounds_36 : decode cX9_sounds 36 = .ok (.iconst 0, 1) := by decide +kernel
theorem dX9_sounds_37 : decode cX9_sounds 37 = .ok (.invokevirtual 61, 3) := by decide +kernel
theorem dX9_sounds_40 : decode cX9_sounds 40 = .ok (.imul, 1) := by decide +kernel
theorem dX9_sounds_41 : decode cX9_sounds 41 = .ok (.iadd, 1) := by decide +kernel
theorem dX9_sounds_42 : decode cX9_sounds 42 = .ok (.iload 4, 2) := by decide +kernel
theorem dX9_sounds_44 : decode cX9_sounds 44 = .ok (.iadd, 1) := by decide +kernel
theorem dX9_sounds_45 : decode cX9_sounds 45 = .ok (.iconst 1, 1) := by decide +kernel
theorem dX9_sounds_46 : decode cX9_sounds 46 = .ok (.isub, 1) := by decide +kernel
theorem dX9_sounds_47 : decode cX9_sounds 47 = .ok (.dup2, 1) := by decide +kernel
theorem dX9_sounds_48 : decode cX9_sounds 48 = .ok (.iaload, 1) := by decide +kernel
theorem dX9_sounds_49 : decode cX9_sounds 49 = .ok (.iconst 1, 1) := by decide +kernel
theorem dX9_sounds_50 : decode cX9_sounds 50 = .ok (.iadd, 1) := by decide +kernel
theorem dX9_sounds_51 : decode cX9_sounds 51 = .ok (.iastore, 1) := by decide +kernel
theorem dX9_sounds_52 : decode cX9_sounds 52 = .ok (.iinc 3 1, 3) := by decide +kernel
theorem dX9_sounds_55 : decode cX9_sounds 55 = .ok (.goto (-53), 3) := by decide +kernel
theorem dX9_sounds_58 : decode cX9_sounds 58 = .ok (.return_, 1) := by decide +kernel
theorem dX9_tires_0 : decode cX9_tires 0 = .ok (.aload_n 0, 1) := by decide +kernel
theorem dX9_tires_1 : decode cX9_tires 1 = .ok (.iload_n 1, 1) := by decide +kernel
theorem dX9_tires_2 : decode cX9_tires 2 = .ok (.iconst 4, 1) := by decide +kernel
theorem dX9_tires_3 : decode cX9_tires 3 = .ok (.aload_n 0, 1) := by decide +kernel
theorem dX9_tires_4 : decode cX9_tires 4 = .ok (.iload_n 1, 1) := by decide +kernel
theorem dX9_tires_5 : decode cX9_tires 5 = .ok (.iconst 4, 1) := by decide +kernel
theorem dX9_tires_6 : decode cX9_tires 6 = .ok (.invokevirtual 61, 3) := by decide +kernel
theorem dX9_tires_9 : decode cX9_tires 9 = .ok (.iconst 1, 1) := by decide +kernel
theorem dX9_tires_10 : decode cX9_tires 10 = .ok (.iadd, 1) := by decide +kernel
theorem dX9_tires_11 : decode cX9_tires 11 = .ok (.invokevirtual 65, 3) := by decide +kernel
theorem dX9_tires_14 : decode cX9_tires 14 = .ok (.aload_n 0, 1) := by decide +kernel
theorem dX9_tires_15 : decode cX9_tires 15 = .ok (.iload_n 1, 1) := by decide +kernel
theorem dX9_tires_16 : decode cX9_tires 16 = .ok (.iconst 4, 1) := by decide +kernel
theorem dX9_tires_17 : decode cX9_tires 17 = .ok (.invokevirtual 61, 3) := by decide +kernel
theorem dX9_tires_20 : decode cX9_tires 20 = .ok (.iconst 3, 1) := by decide +kernel
theorem dX9_tires_21 : decode cX9_tires 21 = .ok (.if_icmp .ge 4, 3) := by decide +kernel
theorem dX9_tires_24 : decode cX9_tires 24 = .ok (.return_, 1) := by decide +kernel
theorem dX9_tires_25 : decode cX9_tires 25 = .ok (.aload_n 0, 1) := by decide +kernel
theorem dX9_tires_26 : decode cX9_tires 26 = .ok (.iload_n 1, 1) := by decide +kernel
theorem dX9_tires_27 : decode cX9_tires 27 = .ok (.iconst 4, 1) := by decide +kernel
theorem dX9_tires_28 : decode cX9_tires 28 = .ok (.iconst 0, 1) := by decide +kernel
theorem dX9_tires_29 : decode cX9_tires 29 = .ok (.invokevirtual 65, 3) := by decide +kernel
theorem dX9_tires_32 : decode cX9_tires 32 = .ok (.aload_n 0, 1) := by decide +kernel
theorem dX9_tires_33 : decode cX9_tires 33 = .ok (.iload_n 1, 1) := by decide +kernel
theorem dX9_tires_34 : decode cX9_tires 34 = .ok (.iconst 5, 1) := by decide +kernel
theorem dX9_tires_35 : decode cX9_tires 35 = .ok (.iconst 2, 1) := by decide +kernel
theorem dX9_tires_36 : decode cX9_tires 36 = .ok (.invokevirtual 65, 3) := by decide +kernel
theorem dX9_tires_39 : decode cX9_tires 39 = .ok (.return_, 1) := by decide +kernel
theorem dX9_logs_0 : decode cX9_logs 0 = .ok (.aload_n 0, 1) := by decide +kernel
theorem dX9_logs_1 : decode cX9_logs 1 = .ok (.getfield 13, 3) := by decide +kernel
theorem dX9_logs_4 : decode cX9_logs 4 = .ok (.bipush 7, 2) := by decide +kernel
theorem dX9_logs_6 : decode cX9_logs 6 = .ok (.iaload, 1) := by decide +kernel
theorem dX9_logs_7 : decode cX9_logs 7 = .ok (.bipush 10, 2) := by decide +kernel
theorem dX9_logs_9 : decode cX9_logs 9 = .ok (.if_icmp .ge 14, 3) := by decide +kernel
theorem dX9_logs_12 : decode cX9_logs 12 = .ok (.aload_n 0, 1) := by decide +kernel
theorem dX9_logs_13 : decode cX9_logs 13 = .ok (.getfield 13, 3) := by decide +kernel
theorem dX9_logs_16 : decode cX9_logs 16 = .ok (.bipush 7, 2) := by decide +kernel
theorem dX9_logs_18 : decode cX9_logs 18 = .ok (.dup2, 1) := by decide +kernel
theorem dX9_logs_19 : decode cX9_logs 19 = .ok (.iaload, 1) := by decide +kernel
theorem dX9_logs_20 : decode cX9_logs 20 = .ok (.iconst 1, 1) := by decide +kernel
theorem dX9_logs_21 : decode cX9_logs 21 = .ok (.iadd, 1) := by decide +kernel
theorem dX9_logs_22 : decode cX9_logs 22 = .ok (.iastore, 1) := by decide +kernel
theorem dX9_logs_23 : decode cX9_logs 23 = .ok (.aload_n 0, 1) := by decide +kernel
theorem dX9_logs_24 : decode cX9_logs 24 = .ok (.getfield 13, 3) := by decide +kernel
theorem dX9_logs_27 : decode cX9_logs 27 = .ok (.bipush 7, 2) := by decide +kernel
theorem dX9_logs_29 : decode cX9_logs 29 = .ok (.iaload, 1) := by decide +kernel
theorem dX9_logs_30 : decode cX9_logs 30 = .ok (.iconst 1, 1) := by decide +kernel
theorem dX9_logs_31 : decode cX9_logs 31 = .ok (.isub, 1) := by decide +kernel
theorem dX9_logs_32 : decode cX9_logs 32 = .ok (.istore_n 2, 1) := by decide +kernel
theorem dX9_logs_33 : decode cX9_logs 33 = .ok (.iload_n 2, 1) := by decide +kernel
theorem dX9_logs_34 : decode cX9_logs 34 = .ok (.ifCond .le 29, 3) := by decide +kernel
theorem dX9_logs_37 : decode cX9_logs 37 = .ok (.aload_n 0, 1) := by decide +kernel
theorem dX9_logs_38 : decode cX9_logs 38 = .ok (.getfield 13, 3) := by decide +kernel
theorem dX9_logs_41 : decode cX9_logs 41 = .ok (.bipush 8, 2) := by decide +kernel
theorem dX9_logs_43 : decode cX9_logs 43 = .ok (.iload_n 2, 1) := by decide +kernel
theorem dX9_logs_44 : decode cX9_logs 44 = .ok (.iadd, 1) := by decide +kernel
theorem dX9_logs_45 : decode cX9_logs 45 = .ok (.aload_n 0, 1) := by decide +kernel
theorem dX9_logs_46 : decode cX9_logs 46 = .ok (.getfield 13, 3) := by decide +kernel
theorem dX9_logs_49 : decode cX9_logs 49 = .ok (.bipush 8, 2) := by decide +kernel
theorem dX9_logs_51 : decode cX9_logs 51 = .ok (.iload_n 2, 1) := by decide +kernel
theorem dX9_logs_52 : decode cX9_logs 52 = .ok (.iadd, 1) := by decide +kernel
theorem dX9_logs_53 : decode cX9_logs 53 = .ok (.iconst 1, 1) := by decide +kernel
theorem dX9_logs_54 : decode cX9_logs 54 = .ok (.isub, 1) := by decide +kernel
theorem dX9_logs_55 : decode cX9_logs 55 = .ok (.iaload, 1) := by decide +kernel
theorem dX9_logs_56 : decode cX9_logs 56 = .ok (.iastore, 1) := by decide +kernel
theorem dX9_logs_57 : decode cX9_logs 57 = .ok (.iinc 2 (-1), 3) := by decide +kernel
theorem dX9_logs_60 : decode cX9_logs 60 = .ok (.goto (-27), 3) := by decide +kernel
theorem dX9_logs_63 : decode cX9_logs 63 = .ok (.aload_n 0, 1) := by decide +kernel
theorem dX9_logs_64 : decode cX9_logs 64 = .ok (.getfield 13, 3) := by decide +kernel
theorem dX9_logs_67 : decode cX9_logs 67 = .ok (.bipush 8, 2) := by decide +kernel
theorem dX9_logs_69 : decode cX9_logs 69 = .ok (.iload_n 1, 1) := by decide +kernel
theorem dX9_logs_70 : decode cX9_logs 70 = .ok (.iastore, 1) := by decide +kernel
theorem dX9_logs_71 : decode cX9_logs 71 = .ok (.iload_n 1, 1) := by decide +kernel
theorem dX9_logs_72 : decode cX9_logs 72 = .ok (.aload_n 0, 1) := by decide +kernel
theorem dX9_logs_73 : decode cX9_logs 73 = .ok (.getfield 13, 3) := by decide +kernel
theorem dX9_logs_76 : decode cX9_logs 76 = .ok (.bipush 6, 2) := by decide +kernel
theorem dX9_logs_78 : decode cX9_logs 78 = .ok (.iaload, 1) := by decide +kernel
theorem dX9_logs_79 : decode cX9_logs 79 = .ok (.if_icmp .le 11, 3) := by decide +kernel
theorem dX9_logs_82 : decode cX9_logs 82 = .ok (.aload_n 0, 1) := by decide +kernel
theorem dX9_logs_83 : decode cX9_logs 83 = .ok (.getfield 13, 3) := by decide +kernel
theorem dX9_logs_86 : decode cX9_logs 86 = .ok (.bipush 6, 2) := by decide +kernel
theorem dX9_logs_88 : decode cX9_logs 88 = .ok (.iload_n 1, 1) := by decide +kernel
theorem dX9_logs_89 : decode cX9_logs 89 = .ok (.iastore, 1) := by decide +kernel
theorem dX9_logs_90 : decode cX9_logs 90 = .ok (.return_, 1) := by decide +kernel
theorem dX9_beats_0 : decode cX9_beats 0 = .ok (.iconst 0, 1) := by decide +kernel
theorem dX9_beats_1 : decode cX9_beats 1 = .ok (.istore_n 1, 1) := by decide +kernel
theorem dX9_beats_2 : decode cX9_beats 2 = .ok (.iconst 0, 1) := by decide +kernel
theorem dX9_beats_3 : decode cX9_beats 3 = .ok (.istore_n 2, 1) := by decide +kernel
theorem dX9_beats_4 : decode cX9_beats 4 = .ok (.iconst (-1), 1) := by decide +kernel
theorem dX9_beats_5 : decode cX9_beats 5 = .ok (.istore_n 3, 1) := by decide +kernel
theorem dX9_beats_6 : decode cX9_beats 6 = .ok (.iconst 0, 1) := by decide +kernel
theorem dX9_beats_7 : decode cX9_beats 7 = .ok (.istore 4, 2) := by decide +kernel
theorem dX9_beats_9 : decode cX9_beats 9 = .ok (.iload 4, 2) := by decide +kernel
theorem dX9_beats_11 : decode cX9_beats 11 = .ok (.aload_n 0, 1) := by decide +kernel
theorem dX9_beats_12 : decode cX9_beats 12 = .ok (.getfield 13, 3) := by decide +kernel
theorem dX9_beats_15 : decode cX9_beats 15 = .ok (.iconst 0, 1) := by decide +kernel
theorem dX9_beats_16 : decode cX9_beats 16 = .ok (.iaload, 1) := by decide +kernel
theorem dX9_beats_17 : decode cX9_beats 17 = .ok (.if_icmp .ge 100, 3) := by decide +kernel
theorem dX9_beats_20 : decode cX9_beats 20 = .ok (.aload_n 0, 1) := by decide +kernel
theorem dX9_beats_21 : decode cX9_beats 21 = .ok (.iload 4, 2) := by decide +kernel
theorem dX9_beats_23 : decode cX9_beats 23 = .ok (.invokevirtual 153, 3) := by decide +kernel
theorem dX9_beats_26 : decode cX9_beats 26 = .ok (.istore 5, 2) := by decide +kernel
theorem dX9_beats_28 : decode cX9_beats 28 = .ok (.aload_n 0, 1) := by decide +kernel
theorem dX9_beats_29 : decode cX9_beats 29 = .ok (.iload 4, 2) := by decide +kernel
theorem dX9_beats_31 : decode cX9_beats 31 = .ok (.invokevirtual 147, 3) := by decide +kernel
theorem dX9_beats_34 : decode cX9_beats 34 = .ok (.ifCond .eq 15, 3) := by decide +kernel
theorem dX9_beats_37 : decode cX9_beats 37 = .ok (.aload_n 0, 1) := by decide +kernel
theorem dX9_beats_38 : decode cX9_beats 38 = .ok (.iload 4, 2) := by decide +kernel
theorem dX9_beats_40 : decode cX9_beats 40 = .ok (.aload_n 0, 1) := by decide +kernel
theorem dX9_beats_41 : decode cX9_beats 41 = .ok (.iload 4, 2) := by decide +kernel
theorem dX9_beats_43 : decode cX9_beats 43 = .ok (.invokevirtual 144, 3) := by decide +kernel
theorem dX9_beats_46 : decode cX9_beats 46 = .ok (.invokevirtual 156, 3) := by decide +kernel
theorem dX9_beats_49 : decode cX9_beats 49 = .ok (.aload_n 0, 1) := by decide +kernel
theorem dX9_beats_50 : decode cX9_beats 50 = .ok (.iload 4, 2) := by decide +kernel
theorem dX9_beats_52 : decode cX9_beats 52 = .ok (.iconst 5, 1) := by decide +kernel
theorem dX9_beats_53 : decode cX9_beats 53 = .ok (.invokevirtual 61, 3) := by decide +kernel
theorem dX9_beats_56 : decode cX9_beats 56 = .ok (.ifCond .le 19, 3) := by decide +kernel
theorem dX9_beats_59 : decode cX9_beats 59 = .ok (.aload_n 0, 1) := by decide +kernel
theorem dX9_beats_60 : decode cX9_beats 60 = .ok (.iload 4, 2) := by decide +kernel
theorem dX9_beats_62 : decode cX9_beats 62 = .ok (.iconst 5, 1) := by decide +kernel
theorem dX9_beats_63 : decode cX9_beats 63 = .ok (.aload_n 0, 1) := by decide +kernel
theorem dX9_beats_64 : decode cX9_beats 64 = .ok (.iload 4, 2) := by decide +kernel
theorem dX9_beats_66 : decode cX9_beats 66 = .ok (.iconst 5, 1) := by decide +kernel
theorem dX9_beats_67 : decode cX9_beats 67 = .ok (.invokevirtual 61, 3) := by decide +kernel
theorem dX9_beats_70 : decode cX9_beats 70 = .ok (.iconst 1, 1) := by decide +kernel
theorem dX9_beats_71 : decode cX9_beats 71 = .ok (.isub, 1) := by decide +kernel
theorem dX9_beats_72 : decode cX9_beats 72 = .ok (.invokevirtual 65, 3) := by decide +kernel
theorem dX9_beats_75 : decode cX9_beats 75 = .ok (.aload_n 0, 1) := by decide +kernel
theorem dX9_beats_76 : decode cX9_beats 76 = .ok (.iload 4, 2) := by decide +kernel
theorem dX9_beats_78 : decode cX9_beats 78 = .ok (.bipush 6, 2) := by decide +kernel
theorem dX9_beats_80 : decode cX9_beats 80 = .ok (.aload_n 0, 1) := by decide +kernel
theorem dX9_beats_81 : decode cX9_beats 81 = .ok (.iload 4, 2) := by decide +kernel
theorem dX9_beats_83 : decode cX9_beats 83 = .ok (.bipush 6, 2) := by decide +kernel
theorem dX9_beats_85 : decode cX9_beats 85 = .ok (.invokevirtual 61, 3) := by decide +kernel
theorem dX9_beats_88 : decode cX9_beats 88 = .ok (.iload 5, 2) := by decide +kernel
theorem dX9_beats_90 : decode cX9_beats 90 = .ok (.iadd, 1) := by decide +kernel
theorem dX9_beats_91 : decode cX9_beats 91 = .ok (.invokevirtual 65, 3) := by decide +kernel
theorem dX9_beats_94 : decode cX9_beats 94 = .ok (.iload_n 1, 1) := by decide +kernel
theorem dX9_beats_95 : decode cX9_beats 95 = .ok (.iload 5, 2) := by decide +kernel
theorem dX9_beats_97 : decode cX9_beats 97 = .ok (.iadd, 1) := by decide +kernel
theorem dX9_beats_98 : decode cX9_beats 98 = .ok (.istore_n 1, 1) := by decide +kernel
theorem dX9_beats_99 : decode cX9_beats 99 = .ok (.iload 5, 2) := by decide +kernel
theorem dX9_beats_101 : decode cX9_beats 101 = .ok (.iload_n 3, 1) := by decide +kernel
theorem dX9_beats_102 : decode cX9_beats 102 = .ok (.if_icmp .le 9, 3) := by decide +kernel
theorem dX9_beats_105 : decode cX9_beats 105 = .ok (.iload 5, 2) := by decide +kernel
theorem dX9_beats_107 : decode cX9_beats 107 = .ok (.istore_n 3, 1) := by decide +kernel
theorem dX9_beats_108 : decode cX9_beats 108 = .ok (.iload 4, 2) := by decide +kernel
theorem dX9_beats_110 : decode cX9_beats 110 = .ok (.istore_n 2, 1) := by decide +kernel
theorem dX9_beats_111 : decode cX9_beats 111 = .ok (.iinc 4 1, 3) := by decide +kernel
theorem dX9_beats_114 : decode cX9_beats 114 = .ok (.goto (-105), 3) := by decide +kernel
theorem dX9_beats_117 : decode cX9_beats 117 = .ok (.iload_n 1, 1) := by decide +kernel
theorem dX9_beats_118 : decode cX9_beats 118 = .ok (.aload_n 0, 1) := by decide +kernel
theorem dX9_beats_119 : decode cX9_beats 119 = .ok (.getfield 13, 3) := by decide +kernel
theorem dX9_beats_122 : decode cX9_beats 122 = .ok (.iconst 3, 1) := by decide +kernel
theorem dX9_beats_123 : decode cX9_beats 123 = .ok (.iaload, 1) := by decide +kernel
theorem dX9_beats_124 : decode cX9_beats 124 = .ok (.if_icmp .le 18, 3) := by decide +kernel
theorem dX9_beats_127 : decode cX9_beats 127 = .ok (.aload_n 0, 1) := by decide +kernel
theorem dX9_beats_128 : decode cX9_beats 128 = .ok (.getfield 13, 3) := by decide +kernel
theorem dX9_beats_131 : decode cX9_beats 131 = .ok (.iconst 4, 1) := by decide +kernel
theorem dX9_beats_132 : decode cX9_beats 132 = .ok (.dup2, 1) := by decide +kernel
theorem dX9_beats_133 : decode cX9_beats 133 = .ok (.iaload, 1) := by decide +kernel
theorem dX9_beats_134 : decode cX9_beats 134 = .ok (.iconst 1, 1) := by decide +kernel
theorem dX9_beats_135 : decode cX9_beats 135 = .ok (.iadd, 1) := by decide +kernel
theorem dX9_beats_136 : decode cX9_beats 136 = .ok (.iastore, 1) := by decide +kernel
theorem dX9_beats_137 : decode cX9_beats 137 = .ok (.aload_n 0, 1) := by decide +kernel
theorem dX9_beats_138 : decode cX9_beats 138 = .ok (.iload_n 2, 1) := by decide +kernel
theorem dX9_beats_139 : decode cX9_beats 139 = .ok (.invokevirtual 160, 3) := by decide +kernel
theorem dX9_beats_142 : decode cX9_beats 142 = .ok (.aload_n 0, 1) := by decide +kernel
theorem dX9_beats_143 : decode cX9_beats 143 = .ok (.getfield 13, 3) := by decide +kernel
theorem dX9_beats_146 : decode cX9_beats 146 = .ok (.iconst 1, 1) := by decide +kernel
theorem dX9_beats_147 : decode cX9_beats 147 = .ok (.dup2, 1) := by decide +kernel
theorem dX9_beats_148 : decode cX9_beats 148 = .ok (.iaload, 1) := by decide +kernel
theorem dX9_beats_149 : decode cX9_beats 149 = .ok (.iconst 1, 1) := by decide +kernel
theorem dX9_beats_150 : decode cX9_beats 150 = .ok (.iadd, 1) := by decide +kernel
theorem dX9_beats_151 : decode cX9_beats 151 = .ok (.iastore, 1) := by decide +kernel
theorem dX9_beats_152 : decode cX9_beats 152 = .ok (.aload_n 0, 1) := by decide +kernel
theorem dX9_beats_153 : decode cX9_beats 153 = .ok (.getfield 13, 3) := by decide +kernel
theorem dX9_beats_156 : decode cX9_beats 156 = .ok (.iconst 5, 1) := by decide +kernel
theorem dX9_beats_157 : decode cX9_beats 157 = .ok (.dup2, 1) := by decide +kernel
theorem dX9_beats_158 : decode cX9_beats 158 = .ok (.iaload, 1) := by decide +kernel
theorem dX9_beats_159 : decode cX9_beats 159 = .ok (.iload_n 1, 1) := by decide +kernel
theorem dX9_beats_160 : decode cX9_beats 160 = .ok (.iadd, 1) := by decide +kernel
theorem dX9_beats_161 : decode cX9_beats 161 = .ok (.iastore, 1) := by decide +kernel
theorem dX9_beats_162 : decode cX9_beats 162 = .ok (.aload_n 0, 1) := by decide +kernel
theorem dX9_beats_163 : decode cX9_beats 163 = .ok (.iload_n 1, 1) := by decide +kernel
theorem dX9_beats_164 : decode cX9_beats 164 = .ok (.invokevirtual 164, 3) := by decide +kernel
theorem dX9_beats_167 : decode cX9_beats 167 = .ok (.iload_n 1, 1) := by decide +kernel
theorem dX9_beats_168 : decode cX9_beats 168 = .ok (.ireturn, 1) := by decide +kernel
theorem dX9_beatsTimes_0 : decode cX9_beatsTimes 0 = .ok (.iconst 0, 1) := by decide +kernel
theorem dX9_beatsTimes_1 : decode cX9_beatsTimes 1 = .ok (.istore_n 2, 1) := by decide +kernel
theorem dX9_beatsTimes_2 : decode cX9_beatsTimes 2 = .ok (.iconst 0, 1) := by decide +kernel
theorem dX9_beatsTimes_3 : decode cX9_beatsTimes 3 = .ok (.istore_n 3, 1) := by decide +kernel
theorem dX9_beatsTimes_4 : decode cX9_beatsTimes 4 = .ok (.iload_n 3, 1) := by decide +kernel
theorem dX9_beatsTimes_5 : decode cX9_beatsTimes 5 = .ok (.iload_n 1, 1) := by decide +kernel
theorem dX9_beatsTimes_6 : decode cX9_beatsTimes 6 = .ok (.if_icmp .ge 16, 3) := by decide +kernel
theorem dX9_beatsTimes_9 : decode cX9_beatsTimes 9 = .ok (.iload_n 2, 1) := by decide +kernel
theorem dX9_beatsTimes_10 : decode cX9_beatsTimes 10 = .ok (.aload_n 0, 1) := by decide +kernel
theorem dX9_beatsTimes_11 : decode cX9_beatsTimes 11 = .ok (.invokevirtual 167, 3) := by decide +kernel
theorem dX9_beatsTimes_14 : decode cX9_beatsTimes 14 = .ok (.iadd, 1) := by decide +kernel
theorem dX9_beatsTimes_15 : decode cX9_beatsTimes 15 = .ok (.istore_n 2, 1) := by decide +kernel
theorem dX9_beatsTimes_16 : decode cX9_beatsTimes 16 = .ok (.iinc 3 1, 3) := by decide +kernel
theorem dX9_beatsTimes_19 : decode cX9_beatsTimes 19 = .ok (.goto (-15), 3) := by decide +kernel
theorem dX9_beatsTimes_22 : decode cX9_beatsTimes 22 = .ok (.iload_n 2, 1) := by decide +kernel
theorem dX9_beatsTimes_23 : decode cX9_beatsTimes 23 = .ok (.ireturn, 1) := by decide +kernel
theorem dX9_conductWave_0 : decode cX9_conductWave 0 = .ok (.aload_n 0, 1) := by decide +kernel
theorem dX9_conductWave_1 : decode cX9_conductWave 1 = .ok (.iconst 0, 1) := by decide +kernel
theorem dX9_conductWave_2 : decode cX9_conductWave 2 = .ok (.putfield 1, 3) := by decide +kernel
theorem dX9_conductWave_5 : decode cX9_conductWave 5 = .ok (.aload_n 0, 1) := by decide +kernel
theorem dX9_conductWave_6 : decode cX9_conductWave 6 = .ok (.invokevirtual 90, 3) := by decide +kernel
theorem dX9_conductWave_9 : decode cX9_conductWave 9 = .ok (.aload_n 0, 1) := by decide +kernel
theorem dX9_conductWave_10 : decode cX9_conductWave 10 = .ok (.aload_n 0, 1) := by decide +kernel
theorem dX9_conductWave_11 : decode cX9_conductWave 11 = .ok (.getfield 13, 3) := by decide +kernel
theorem dX9_conductWave_14 : decode cX9_conductWave 14 = .ok (.iconst 2, 1) := by decide +kernel
theorem dX9_conductWave_15 : decode cX9_conductWave 15 = .ok (.iaload, 1) := by decide +kernel
theorem dX9_conductWave_16 : decode cX9_conductWave 16 = .ok (.invokevirtual 171, 3) := by decide +kernel
theorem dX9_conductWave_19 : decode cX9_conductWave 19 = .ok (.ireturn, 1) := by decide +kernel
theorem dX9_notBeats_0 : decode cX9_notBeats 0 = .ok (.iload_n 0, 1) := by decide +kernel
theorem dX9_notBeats_1 : decode cX9_notBeats 1 = .ok (.iconst 1, 1) := by decide +kernel
theorem dX9_notBeats_2 : decode cX9_notBeats 2 = .ok (.bipush 40, 2) := by decide +kernel
theorem dX9_notBeats_4 : decode cX9_notBeats 4 = .ok (.invokestatic 57, 3) := by decide +kernel
theorem dX9_notBeats_7 : decode cX9_notBeats 7 = .ok (.ifCond .eq 7, 3) := by decide +kernel
theorem dX9_notBeats_10 : decode cX9_notBeats 10 = .ok (.iconst 0, 1) := by decide +kernel
theorem dX9_notBeats_11 : decode cX9_notBeats 11 = .ok (.goto 4, 3) := by decide +kernel
theorem dX9_notBeats_14 : decode cX9_notBeats 14 = .ok (.iconst 1, 1) := by decide +kernel
theorem dX9_notBeats_15 : decode cX9_notBeats 15 = .ok (.ireturn, 1) := by decide +kernel
theorem dX9_conductBeats_0 : decode cX9_conductBeats 0 = .ok (.aload_n 0, 1) := by decide +kernel
theorem dX9_conductBeats_1 : decode cX9_conductBeats 1 = .ok (.iconst 0, 1) := by decide +kernel
theorem dX9_conductBeats_2 : decode cX9_conductBeats 2 = .ok (.putfield 1, 3) := by decide +kernel
theorem dX9_conductBeats_5 : decode cX9_conductBeats 5 = .ok (.iload_n 1, 1) := by decide +kernel
theorem dX9_conductBeats_6 : decode cX9_conductBeats 6 = .ok (.invokestatic 174, 3) := by decide +kernel
theorem dX9_conductBeats_9 : decode cX9_conductBeats 9 = .ok (.ifCond .eq 9, 3) := by decide +kernel
theorem dX9_conductBeats_12 : decode cX9_conductBeats 12 = .ok (.aload_n 0, 1) := by decide +kernel
theorem dX9_conductBeats_13 : decode cX9_conductBeats 13 = .ok (.iconst 1, 1) := by decide +kernel
theorem dX9_conductBeats_14 : decode cX9_conductBeats 14 = .ok (.invokevirtual 87, 3) := by decide +kernel
theorem dX9_conductBeats_17 : decode cX9_conductBeats 17 = .ok (.ireturn, 1) := by decide +kernel
theorem dX9_conductBeats_18 : decode cX9_conductBeats 18 = .ok (.aload_n 0, 1) := by decide +kernel
theorem dX9_conductBeats_19 : decode cX9_conductBeats 19 = .ok (.invokevirtual 90, 3) := by decide +kernel
theorem dX9_conductBeats_22 : decode cX9_conductBeats 22 = .ok (.aload_n 0, 1) := by decide +kernel
theorem dX9_conductBeats_23 : decode cX9_conductBeats 23 = .ok (.iload_n 1, 1) := by decide +kernel
theorem dX9_conductBeats_24 : decode cX9_conductBeats 24 = .ok (.invokevirtual 171, 3) := by decide +kernel
theorem dX9_conductBeats_27 : decode cX9_conductBeats 27 = .ok (.ireturn, 1) := by decide +kernel
theorem dX9_asks_0 : decode cX9_asks 0 = .ok (.aload_n 0, 1) := by decide +kernel
theorem dX9_asks_1 : decode cX9_asks 1 = .ok (.iconst 0, 1) := by decide +kernel
theorem dX9_asks_2 : decode cX9_asks 2 = .ok (.putfield 1, 3) := by decide +kernel
theorem dX9_asks_5 : decode cX9_asks 5 = .ok (.aload_n 0, 1) := by decide +kernel
theorem dX9_asks_6 : decode cX9_asks 6 = .ok (.getfield 13, 3) := by decide +kernel
theorem dX9_asks_9 : decode cX9_asks 9 = .ok (.iload_n 1, 1) := by decide +kernel
theorem dX9_asks_10 : decode cX9_asks 10 = .ok (.iaload, 1) := by decide +kernel
theorem dX9_asks_11 : decode cX9_asks 11 = .ok (.ireturn, 1) := by decide +kernel
theorem dX9_beatCount_0 : decode cX9_beatCount 0 = .ok (.aload_n 0, 1) := by decide +kernel
theorem dX9_beatCount_1 : decode cX9_beatCount 1 = .ok (.iconst 1, 1) := by decide +kernel
theorem dX9_beatCount_2 : decode cX9_beatCount 2 = .ok (.invokevirtual 177, 3) := by decide +kernel
theorem dX9_beatCount_5 : decode cX9_beatCount 5 = .ok (.ireturn, 1) := by decide +kernel
theorem dX9_sectionCount_0 : decode cX9_sectionCount 0 = .ok (.aload_n 0, 1) := by decide +kernel
theorem dX9_sectionCount_1 : decode cX9_sectionCount 1 = .ok (.iconst 0, 1) := by decide +kernel
theorem dX9_sectionCount_2 : decode cX9_sectionCount 2 = .ok (.invokevirtual 177, 3) := by decide +kernel
theorem dX9_sectionCount_5 : decode cX9_sectionCount 5 = .ok (.ireturn, 1) := by decide +kernel
theorem dX9_tempo_0 : decode cX9_tempo 0 = .ok (.aload_n 0, 1) := by decide +kernel
theorem dX9_tempo_1 : decode cX9_tempo 1 = .ok (.iconst 2, 1) := by decide +kernel
theorem dX9_tempo_2 : decode cX9_tempo 2 = .ok (.invokevirtual 177, 3) := by decide +kernel
theorem dX9_tempo_5 : decode cX9_tempo 5 = .ok (.ireturn, 1) := by decide +kernel
theorem dX9_limit_0 : decode cX9_limit 0 = .ok (.aload_n 0, 1) := by decide +kernel
theorem dX9_limit_1 : decode cX9_limit 1 = .ok (.iconst 3, 1) := by decide +kernel
theorem dX9_limit_2 : decode cX9_limit 2 = .ok (.invokevirtual 177, 3) := by decide +kernel
theorem dX9_limit_5 : decode cX9_limit 5 = .ok (.ireturn, 1) := by decide +kernel
theorem dX9_asksSection_0 : decode cX9_asksSection 0 = .ok (.aload_n 0, 1) := by decide +kernel
theorem dX9_asksSection_1 : decode cX9_asksSection 1 = .ok (.iconst 0, 1) := by decide +kernel
theorem dX9_asksSection_2 : decode cX9_asksSection 2 = .ok (.putfield 1, 3) := by decide +kernel
theorem dX9_asksSection_5 : decode cX9_asksSection 5 = .ok (.aload_n 0, 1) := by decide +kernel
theorem dX9_asksSection_6 : decode cX9_asksSection 6 = .ok (.iload_n 1, 1) := by decide +kernel
theorem dX9_asksSection_7 : decode cX9_asksSection 7 = .ok (.invokevirtual 69, 3) := by decide +kernel
theorem dX9_asksSection_10 : decode cX9_asksSection 10 = .ok (.ifCond .eq 12, 3) := by decide +kernel
theorem dX9_asksSection_13 : decode cX9_asksSection 13 = .ok (.aload_n 0, 1) := by decide +kernel
theorem dX9_asksSection_14 : decode cX9_asksSection 14 = .ok (.iload_n 1, 1) := by decide +kernel
theorem dX9_asksSection_15 : decode cX9_asksSection 15 = .ok (.iload_n 2, 1) := by decide +kernel
theorem dX9_asksSection_16 : decode cX9_asksSection 16 = .ok (.invokevirtual 61, 3) := by decide +kernel
theorem dX9_asksSection_19 : decode cX9_asksSection 19 = .ok (.goto 8, 3) := by decide +kernel
theorem dX9_asksSection_22 : decode cX9_asksSection 22 = .ok (.aload_n 0, 1) := by decide +kernel
theorem dX9_asksSection_23 : decode cX9_asksSection 23 = .ok (.iconst 1, 1) := by decide +kernel
theorem dX9_asksSection_24 : decode cX9_asksSection 24 = .ok (.invokevirtual 87, 3) := by decide +kernel
theorem dX9_asksSection_27 : decode cX9_asksSection 27 = .ok (.ireturn, 1) := by decide +kernel
theorem dX9_kind_0 : decode cX9_kind 0 = .ok (.aload_n 0, 1) := by decide +kernel
theorem dX9_kind_1 : decode cX9_kind 1 = .ok (.iload_n 1, 1) := by decide +kernel
theorem dX9_kind_2 : decode cX9_kind 2 = .ok (.iconst 0, 1) := by decide +kernel
theorem dX9_kind_3 : decode cX9_kind 3 = .ok (.invokevirtual 180, 3) := by decide +kernel
theorem dX9_kind_6 : decode cX9_kind 6 = .ok (.istore_n 2, 1) := by decide +kernel
theorem dX9_kind_7 : decode cX9_kind 7 = .ok (.aload_n 0, 1) := by decide +kernel
theorem dX9_kind_8 : decode cX9_kind 8 = .ok (.getfield 1, 3) := by decide +kernel
theorem dX9_kind_11 : decode cX9_kind 11 = .ok (.ifCond .eq 5, 3) := by decide +kernel
theorem dX9_kind_14 : decode cX9_kind 14 = .ok (.iconst 0, 1) := by decide +kernel
theorem dX9_kind_15 : decode cX9_kind 15 = .ok (.ireturn, 1) := by decide +kernel
theorem dX9_kind_16 : decode cX9_kind 16 = .ok (.iload_n 2, 1) := by decide +kernel
theorem dX9_kind_17 : decode cX9_kind 17 = .ok (.invokestatic 183, 3) := by decide +kernel
theorem dX9_kind_20 : decode cX9_kind 20 = .ok (.ireturn, 1) := by decide +kernel
theorem dX9_rows_0 : decode cX9_rows 0 = .ok (.aload_n 0, 1) := by decide +kernel
theorem dX9_rows_1 : decode cX9_rows 1 = .ok (.iload_n 1, 1) := by decide +kernel
theorem dX9_rows_2 : decode cX9_rows 2 = .ok (.iconst 1, 1) := by decide +kernel
theorem dX9_rows_3 : decode cX9_rows 3 = .ok (.invokevirtual 180, 3) := by decide +kernel
theorem dX9_rows_6 : decode cX9_rows 6 = .ok (.ireturn, 1) := by decide +kernel
theorem dX9_columns_0 : decode cX9_columns 0 = .ok (.aload_n 0, 1) := by decide +kernel
theorem dX9_columns_1 : decode cX9_columns 1 = .ok (.iload_n 1, 1) := by decide +kernel
theorem dX9_columns_2 : decode cX9_columns 2 = .ok (.iconst 2, 1) := by decide +kernel
theorem dX9_columns_3 : decode cX9_columns 3 = .ok (.invokevirtual 180, 3) := by decide +kernel
theorem dX9_columns_6 : decode cX9_columns 6 = .ok (.ireturn, 1) := by decide +kernel
theorem dX9_note_0 : decode cX9_note 0 = .ok (.aload_n 0, 1) := by decide +kernel
theorem dX9_note_1 : decode cX9_note 1 = .ok (.iconst 0, 1) := by decide +kernel
theorem dX9_note_2 : decode cX9_note 2 = .ok (.putfield 1, 3) := by decide +kernel
theorem dX9_note_5 : decode cX9_note 5 = .ok (.aload_n 0, 1) := by decide +kernel
theorem dX9_note_6 : decode cX9_note 6 = .ok (.iload_n 1, 1) := by decide +kernel
theorem dX9_note_7 : decode cX9_note 7 = .ok (.iload_n 2, 1) := by decide +kernel
theorem dX9_note_8 : decode cX9_note 8 = .ok (.iload_n 3, 1) := by decide +kernel
theorem dX9_note_9 : decode cX9_note 9 = .ok (.invokevirtual 99, 3) := by decide +kernel
theorem dX9_note_12 : decode cX9_note 12 = .ok (.ifCond .eq 13, 3) := by decide +kernel
theorem dX9_note_15 : decode cX9_note 15 = .ok (.aload_n 0, 1) := by decide +kernel
theorem dX9_note_16 : decode cX9_note 16 = .ok (.iload_n 1, 1) := by decide +kernel
theorem dX9_note_17 : decode cX9_note 17 = .ok (.iload_n 2, 1) := by decide +kernel
theorem dX9_note_18 : decode cX9_note 18 = .ok (.iload_n 3, 1) := by decide +kernel
theorem dX9_note_19 : decode cX9_note 19 = .ok (.invokevirtual 73, 3) := by decide +kernel
theorem dX9_note_22 : decode cX9_note 22 = .ok (.goto 8, 3) := by decide +kernel
theorem dX9_note_25 : decode cX9_note 25 = .ok (.aload_n 0, 1) := by decide +kernel
theorem dX9_note_26 : decode cX9_note 26 = .ok (.iconst 1, 1) := by decide +kernel
theorem dX9_note_27 : decode cX9_note 27 = .ok (.invokevirtual 87, 3) := by decide +kernel
theorem dX9_note_30 : decode cX9_note 30 = .ok (.ireturn, 1) := by decide +kernel
theorem dX9_isMasked_0 : decode cX9_isMasked 0 = .ok (.aload_n 0, 1) := by decide +kernel
theorem dX9_isMasked_1 : decode cX9_isMasked 1 = .ok (.iconst 0, 1) := by decide +kernel
theorem dX9_isMasked_2 : decode cX9_isMasked 2 = .ok (.putfield 1, 3) := by decide +kernel
theorem dX9_isMasked_5 : decode cX9_isMasked 5 = .ok (.aload_n 0, 1) := by decide +kernel
theorem dX9_isMasked_6 : decode cX9_isMasked 6 = .ok (.iload_n 1, 1) := by decide +kernel
theorem dX9_isMasked_7 : decode cX9_isMasked 7 = .ok (.iload_n 2, 1) := by decide +kernel
theorem dX9_isMasked_8 : decode cX9_isMasked 8 = .ok (.invokevirtual 117, 3) := by decide +kernel
theorem dX9_isMasked_11 : decode cX9_isMasked 11 = .ok (.istore_n 3, 1) := by decide +kernel
theorem dX9_isMasked_12 : decode cX9_isMasked 12 = .ok (.iload_n 3, 1) := by decide +kernel
theorem dX9_isMasked_13 : decode cX9_isMasked 13 = .ok (.ifCond .eq 17, 3) := by decide +kernel
theorem dX9_isMasked_16 : decode cX9_isMasked 16 = .ok (.aload_n 0, 1) := by decide +kernel
theorem dX9_isMasked_17 : decode cX9_isMasked 17 = .ok (.iload_n 3, 1) := by decide +kernel
theorem dX9_isMasked_18 : decode cX9_isMasked 18 = .ok (.invokevirtual 87, 3) := by decide +kernel
theorem dX9_isMasked_21 : decode cX9_isMasked 21 = .ok (.ifCond .le 7, 3) := by decide +kernel
theorem dX9_isMasked_24 : decode cX9_isMasked 24 = .ok (.iconst 1, 1) := by decide +kernel
theorem dX9_isMasked_25 : decode cX9_isMasked 25 = .ok (.goto 4, 3) := by decide +kernel
theorem dX9_isMasked_28 : decode cX9_isMasked 28 = .ok (.iconst 0, 1) := by decide +kernel
theorem dX9_isMasked_29 : decode cX9_isMasked 29 = .ok (.ireturn, 1) := by decide +kernel
theorem dX9_isMasked_30 : decode cX9_isMasked 30 = .ok (.aload_n 0, 1) := by decide +kernel
theorem dX9_isMasked_31 : decode cX9_isMasked 31 = .ok (.iload_n 1, 1) := by decide +kernel
theorem dX9_isMasked_32 : decode cX9_isMasked 32 = .ok (.iload_n 2, 1) := by decide +kernel
theorem dX9_isMasked_33 : decode cX9_isMasked 33 = .ok (.invokevirtual 113, 3) := by decide +kernel
theorem dX9_isMasked_36 : decode cX9_isMasked 36 = .ok (.ireturn, 1) := by decide +kernel
theorem dX9_fatigue_0 : decode cX9_fatigue 0 = .ok (.aload_n 0, 1) := by decide +kernel
theorem dX9_fatigue_1 : decode cX9_fatigue 1 = .ok (.iload_n 1, 1) := by decide +kernel
theorem dX9_fatigue_2 : decode cX9_fatigue 2 = .ok (.iconst 4, 1) := by decide +kernel
theorem dX9_fatigue_3 : decode cX9_fatigue 3 = .ok (.invokevirtual 180, 3) := by decide +kernel
theorem dX9_fatigue_6 : decode cX9_fatigue 6 = .ok (.ireturn, 1) := by decide +kernel
theorem dX9_restingBeats_0 : decode cX9_restingBeats 0 = .ok (.aload_n 0, 1) := by decide +kernel
theorem dX9_restingBeats_1 : decode cX9_restingBeats 1 = .ok (.iload_n 1, 1) := by decide +kernel
theorem dX9_restingBeats_2 : decode cX9_restingBeats 2 = .ok (.iconst 5, 1) := by decide +kernel
theorem dX9_restingBeats_3 : decode cX9_restingBeats 3 = .ok (.invokevirtual 180, 3) := by decide +kernel
theorem dX9_restingBeats_6 : decode cX9_restingBeats 6 = .ok (.ireturn, 1) := by decide +kernel
theorem dX9_isSymmetric_0 : decode cX9_isSymmetric 0 = .ok (.aload_n 0, 1) := by decide +kernel
theorem dX9_isSymmetric_1 : decode cX9_isSymmetric 1 = .ok (.iconst 0, 1) := by decide +kernel
theorem dX9_isSymmetric_2 : decode cX9_isSymmetric 2 = .ok (.putfield 1, 3) := by decide +kernel
theorem dX9_isSymmetric_5 : decode cX9_isSymmetric 5 = .ok (.aload_n 0, 1) := by decide +kernel
theorem dX9_isSymmetric_6 : decode cX9_isSymmetric 6 = .ok (.iload_n 1, 1) := by decide +kernel
theorem dX9_isSymmetric_7 : decode cX9_isSymmetric 7 = .ok (.invokevirtual 69, 3) := by decide +kernel
theorem dX9_isSymmetric_10 : decode cX9_isSymmetric 10 = .ok (.ifCond .ne 17, 3) := by decide +kernel
theorem dX9_isSymmetric_13 : decode cX9_isSymmetric 13 = .ok (.aload_n 0, 1) := by decide +kernel
theorem dX9_isSymmetric_14 : decode cX9_isSymmetric 14 = .ok (.iconst 1, 1) := by decide +kernel
theorem dX9_isSymmetric_15 : decode cX9_isSymmetric 15 = .ok (.invokevirtual 87, 3) := by decide +kernel
theorem dX9_isSymmetric_18 : decode cX9_isSymmetric 18 = .ok (.ifCond .le 7, 3) := by decide +kernel
theorem dX9_isSymmetric_21 : decode cX9_isSymmetric 21 = .ok (.iconst 1, 1) := by decide +kernel
theorem dX9_isSymmetric_22 : decode cX9_isSymmetric 22 = .ok (.goto 4, 3) := by decide +kernel
theorem dX9_isSymmetric_25 : decode cX9_isSymmetric 25 = .ok (.iconst 0, 1) := by decide +kernel
theorem dX9_isSymmetric_26 : decode cX9_isSymmetric 26 = .ok (.ireturn, 1) := by decide +kernel
theorem dX9_isSymmetric_27 : decode cX9_isSymmetric 27 = .ok (.aload_n 0, 1) := by decide +kernel
theorem dX9_isSymmetric_28 : decode cX9_isSymmetric 28 = .ok (.iload_n 1, 1) := by decide +kernel
theorem dX9_isSymmetric_29 : decode cX9_isSymmetric 29 = .ok (.iconst 1, 1) := by decide +kernel
theorem dX9_isSymmetric_30 : decode cX9_isSymmetric 30 = .ok (.invokevirtual 61, 3) := by decide +kernel
theorem dX9_isSymmetric_33 : decode cX9_isSymmetric 33 = .ok (.aload_n 0, 1) := by decide +kernel
theorem dX9_isSymmetric_34 : decode cX9_isSymmetric 34 = .ok (.iload_n 1, 1) := by decide +kernel
theorem dX9_isSymmetric_35 : decode cX9_isSymmetric 35 = .ok (.iconst 2, 1) := by decide +kernel
theorem dX9_isSymmetric_36 : decode cX9_isSymmetric 36 = .ok (.invokevirtual 61, 3) := by decide +kernel
theorem dX9_isSymmetric_39 : decode cX9_isSymmetric 39 = .ok (.if_icmp .eq 5, 3) := by decide +kernel
theorem dX9_isSymmetric_42 : decode cX9_isSymmetric 42 = .ok (.iconst 0, 1) := by decide +kernel
theorem dX9_isSymmetric_43 : decode cX9_isSymmetric 43 = .ok (.ireturn, 1) := by decide +kernel
theorem dX9_isSymmetric_44 : decode cX9_isSymmetric 44 = .ok (.iconst 0, 1) := by decide +kernel
theorem dX9_isSymmetric_45 : decode cX9_isSymmetric 45 = .ok (.istore_n 2, 1) := by decide +kernel
theorem dX9_isSymmetric_46 : decode cX9_isSymmetric 46 = .ok (.iload_n 2, 1) := by decide +kernel
theorem dX9_isSymmetric_47 : decode cX9_isSymmetric 47 = .ok (.aload_n 0, 1) := by decide +kernel
theorem dX9_isSymmetric_48 : decode cX9_isSymmetric 48 = .ok (.iload_n 1, 1) := by decide +kernel
theorem dX9_isSymmetric_49 : decode cX9_isSymmetric 49 = .ok (.iconst 1, 1) := by decide +kernel
theorem dX9_isSymmetric_50 : decode cX9_isSymmetric 50 = .ok (.invokevirtual 61, 3) := by decide +kernel
theorem dX9_isSymmetric_53 : decode cX9_isSymmetric 53 = .ok (.if_icmp .ge 41, 3) := by decide +kernel
theorem dX9_isSymmetric_56 : decode cX9_isSymmetric 56 = .ok (.iconst 0, 1) := by decide +kernel
theorem dX9_isSymmetric_57 : decode cX9_isSymmetric 57 = .ok (.istore_n 3, 1) := by decide +kernel
theorem dX9_isSymmetric_58 : decode cX9_isSymmetric 58 = .ok (.iload_n 3, 1) := by decide +kernel
theorem dX9_isSymmetric_59 : decode cX9_isSymmetric 59 = .ok (.iload_n 2, 1) := by decide +kernel
theorem dX9_isSymmetric_60 : decode cX9_isSymmetric 60 = .ok (.if_icmp .ge 28, 3) := by decide +kernel
theorem dX9_isSymmetric_63 : decode cX9_isSymmetric 63 = .ok (.aload_n 0, 1) := by decide +kernel
theorem dX9_isSymmetric_64 : decode cX9_isSymmetric 64 = .ok (.iload_n 1, 1) := by decide +kernel
theorem dX9_isSymmetric_65 : decode cX9_isSymmetric 65 = .ok (.iload_n 2, 1) := by decide +kernel
theorem dX9_isSymmetric_66 : decode cX9_isSymmetric 66 = .ok (.iload_n 3, 1) := by decide +kernel
theorem dX9_isSymmetric_67 : decode cX9_isSymmetric 67 = .ok (.invokevirtual 73, 3) := by decide +kernel
theorem dX9_isSymmetric_70 : decode cX9_isSymmetric 70 = .ok (.aload_n 0, 1) := by decide +kernel
theorem dX9_isSymmetric_71 : decode cX9_isSymmetric 71 = .ok (.iload_n 1, 1) := by decide +kernel
theorem dX9_isSymmetric_72 : decode cX9_isSymmetric 72 = .ok (.iload_n 3, 1) := by decide +kernel
theorem dX9_isSymmetric_73 : decode cX9_isSymmetric 73 = .ok (.iload_n 2, 1) := by decide +kernel
theorem dX9_isSymmetric_74 : decode cX9_isSymmetric 74 = .ok (.invokevirtual 73, 3) := by decide +kernel
theorem dX9_isSymmetric_77 : decode cX9_isSymmetric 77 = .ok (.if_icmp .eq 5, 3) := by decide +kernel
theorem dX9_isSymmetric_80 : decode cX9_isSymmetric 80 = .ok (.iconst 0, 1) := by decide +kernel
theorem dX9_isSymmetric_81 : decode cX9_isSymmetric 81 = .ok (.ireturn, 1) := by decide +kernel
theorem dX9_isSymmetric_82 : decode cX9_isSymmetric 82 = .ok (.iinc 3 1, 3) := by decide +kernel
theorem dX9_isSymmetric_85 : decode cX9_isSymmetric 85 = .ok (.goto (-27), 3) := by decide +kernel
theorem dX9_isSymmetric_88 : decode cX9_isSymmetric 88 = .ok (.iinc 2 1, 3) := by decide +kernel
theorem dX9_isSymmetric_91 : decode cX9_isSymmetric 91 = .ok (.goto (-45), 3) := by decide +kernel
theorem dX9_isSymmetric_94 : decode cX9_isSymmetric 94 = .ok (.iconst 1, 1) := by decide +kernel
theorem dX9_isSymmetric_95 : decode cX9_isSymmetric 95 = .ok (.ireturn, 1) := by decide +kernel
theorem dX9_areAlike_0 : decode cX9_areAlike 0 = .ok (.aload_n 0, 1) := by decide +kernel
theorem dX9_areAlike_1 : decode cX9_areAlike 1 = .ok (.iconst 0, 1) := by decide +kernel
theorem dX9_areAlike_2 : decode cX9_areAlike 2 = .ok (.putfield 1, 3) := by decide +kernel
theorem dX9_areAlike_5 : decode cX9_areAlike 5 = .ok (.aload_n 0, 1) := by decide +kernel
theorem dX9_areAlike_6 : decode cX9_areAlike 6 = .ok (.iload_n 1, 1) := by decide +kernel
theorem dX9_areAlike_7 : decode cX9_areAlike 7 = .ok (.invokevirtual 69, 3) := by decide +kernel
theorem dX9_areAlike_10 : decode cX9_areAlike 10 = .ok (.ifCond .eq 11, 3) := by decide +kernel
theorem dX9_areAlike_13 : decode cX9_areAlike 13 = .ok (.aload_n 0, 1) := by decide +kernel
theorem dX9_areAlike_14 : decode cX9_areAlike 14 = .ok (.iload_n 2, 1) := by decide +kernel
theorem dX9_areAlike_15 : decode cX9_areAlike 15 = .ok (.invokevirtual 69, 3) := by decide +kernel
theorem dX9_areAlike_18 : decode cX9_areAlike 18 = .ok (.ifCond .ne 17, 3) := by decide +kernel
theorem dX9_areAlike_21 : decode cX9_areAlike 21 = .ok (.aload_n 0, 1) := by decide +kernel
theorem dX9_areAlike_22 : decode cX9_areAlike 22 = .ok (.iconst 1, 1) := by decide +kernel
theorem dX9_areAlike_23 : decode cX9_areAlike 23 = .ok (.invokevirtual 87, 3) := by decide +kernel
theorem dX9_areAlike_26 : decode cX9_areAlike 26 = .ok (.ifCond .le 7, 3) := by decide +kernel
theorem dX9_areAlike_29 : decode cX9_areAlike 29 = .ok (.iconst 1, 1) := by decide +kernel
theorem dX9_areAlike_30 : decode cX9_areAlike 30 = .ok (.goto 4, 3) := by decide +kernel
theorem dX9_areAlike_33 : decode cX9_areAlike 33 = .ok (.iconst 0, 1) := by decide +kernel
theorem dX9_areAlike_34 : decode cX9_areAlike 34 = .ok (.ireturn, 1) := by decide +kernel
theorem dX9_areAlike_35 : decode cX9_areAlike 35 = .ok (.aload_n 0, 1) := by decide +kernel
theorem dX9_areAlike_36 : decode cX9_areAlike 36 = .ok (.iload_n 1, 1) := by decide +kernel
theorem dX9_areAlike_37 : decode cX9_areAlike 37 = .ok (.iconst 1, 1) := by decide +kernel
theorem dX9_areAlike_38 : decode cX9_areAlike 38 = .ok (.invokevirtual 61, 3) := by decide +kernel
theorem dX9_areAlike_41 : decode cX9_areAlike 41 = .ok (.aload_n 0, 1) := by decide +kernel
theorem dX9_areAlike_42 : decode cX9_areAlike 42 = .ok (.iload_n 2, 1) := by decide +kernel
theorem dX9_areAlike_43 : decode cX9_areAlike 43 = .ok (.iconst 1, 1) := by decide +kernel
theorem dX9_areAlike_44 : decode cX9_areAlike 44 = .ok (.invokevirtual 61, 3) := by decide +kernel
theorem dX9_areAlike_47 : decode cX9_areAlike 47 = .ok (.if_icmp .ne 18, 3) := by decide +kernel
theorem dX9_areAlike_50 : decode cX9_areAlike 50 = .ok (.aload_n 0, 1) := by decide +kernel
theorem dX9_areAlike_51 : decode cX9_areAlike 51 = .ok (.iload_n 1, 1) := by decide +kernel
theorem dX9_areAlike_52 : decode cX9_areAlike 52 = .ok (.iconst 2, 1) := by decide +kernel
theorem dX9_areAlike_53 : decode cX9_areAlike 53 = .ok (.invokevirtual 61, 3) := by decide +kernel
theorem dX9_areAlike_56 : decode cX9_areAlike 56 = .ok (.aload_n 0, 1) := by decide +kernel
theorem dX9_areAlike_57 : decode cX9_areAlike 57 = .ok (.iload_n 2, 1) := by decide +kernel
theorem dX9_areAlike_58 : decode cX9_areAlike 58 = .ok (.iconst 2, 1) := by decide +kernel
theorem dX9_areAlike_59 : decode cX9_areAlike 59 = .ok (.invokevirtual 61, 3) := by decide +kernel
theorem dX9_areAlike_62 : decode cX9_areAlike 62 = .ok (.if_icmp .eq 5, 3) := by decide +kernel
theorem dX9_areAlike_65 : decode cX9_areAlike 65 = .ok (.iconst 0, 1) := by decide +kernel
theorem dX9_areAlike_66 : decode cX9_areAlike 66 = .ok (.ireturn, 1) := by decide +kernel
theorem dX9_areAlike_67 : decode cX9_areAlike 67 = .ok (.bipush 7, 2) := by decide +kernel
theorem dX9_areAlike_69 : decode cX9_areAlike 69 = .ok (.istore_n 3, 1) := by decide +kernel
theorem dX9_areAlike_70 : decode cX9_areAlike 70 = .ok (.iload_n 3, 1) := by decide +kernel
theorem dX9_areAlike_71 : decode cX9_areAlike 71 = .ok (.bipush 43, 2) := by decide +kernel
theorem dX9_areAlike_73 : decode cX9_areAlike 73 = .ok (.if_icmp .ge 26, 3) := by decide +kernel
theorem dX9_areAlike_76 : decode cX9_areAlike 76 = .ok (.aload_n 0, 1) := by decide +kernel
theorem dX9_areAlike_77 : decode cX9_areAlike 77 = .ok (.iload_n 1, 1) := by decide +kernel
theorem dX9_areAlike_78 : decode cX9_areAlike 78 = .ok (.iload_n 3, 1) := by decide +kernel
theorem dX9_areAlike_79 : decode cX9_areAlike 79 = .ok (.invokevirtual 61, 3) := by decide +kernel
theorem dX9_areAlike_82 : decode cX9_areAlike 82 = .ok (.aload_n 0, 1) := by decide +kernel
theorem dX9_areAlike_83 : decode cX9_areAlike 83 = .ok (.iload_n 2, 1) := by decide +kernel
theorem dX9_areAlike_84 : decode cX9_areAlike 84 = .ok (.iload_n 3, 1) := by decide +kernel
theorem dX9_areAlike_85 : decode cX9_areAlike 85 = .ok (.invokevirtual 61, 3) := by decide +kernel
theorem dX9_areAlike_88 : decode cX9_areAlike 88 = .ok (.if_icmp .eq 5, 3) := by decide +kernel
theorem dX9_areAlike_91 : decode cX9_areAlike 91 = .ok (.iconst 0, 1) := by decide +kernel
theorem dX9_areAlike_92 : decode cX9_areAlike 92 = .ok (.ireturn, 1) := by decide +kernel
theorem dX9_areAlike_93 : decode cX9_areAlike 93 = .ok (.iinc 3 1, 3) := by decide +kernel
theorem dX9_areAlike_96 : decode cX9_areAlike 96 = .ok (.goto (-26), 3) := by decide +kernel
theorem dX9_areAlike_99 : decode cX9_areAlike 99 = .ok (.iconst 1, 1) := by decide +kernel
theorem dX9_areAlike_100 : decode cX9_areAlike 100 = .ok (.ireturn, 1) := by decide +kernel
theorem dX9_noteVolume_0 : decode cX9_noteVolume 0 = .ok (.aload_n 0, 1) := by decide +kernel
theorem dX9_noteVolume_1 : decode cX9_noteVolume 1 = .ok (.iconst 0, 1) := by decide +kernel
theorem dX9_noteVolume_2 : decode cX9_noteVolume 2 = .ok (.putfield 1, 3) := by decide +kernel
theorem dX9_noteVolume_5 : decode cX9_noteVolume 5 = .ok (.iload_n 1, 1) := by decide +kernel
theorem dX9_noteVolume_6 : decode cX9_noteVolume 6 = .ok (.invokestatic 80, 3) := by decide +kernel
theorem dX9_noteVolume_9 : decode cX9_noteVolume 9 = .ok (.ifCond .lt 13, 3) := by decide +kernel
theorem dX9_noteVolume_12 : decode cX9_noteVolume 12 = .ok (.iload_n 2, 1) := by decide +kernel
theorem dX9_noteVolume_13 : decode cX9_noteVolume 13 = .ok (.iconst 0, 1) := by decide +kernel
theorem dX9_noteVolume_14 : decode cX9_noteVolume 14 = .ok (.bipush 9, 2) := by decide +kernel
theorem dX9_noteVolume_16 : decode cX9_noteVolume 16 = .ok (.invokestatic 57, 3) := by decide +kernel
theorem dX9_noteVolume_19 : decode cX9_noteVolume 19 = .ok (.ifCond .ne 11, 3) := by decide +kernel
theorem dX9_noteVolume_22 : decode cX9_noteVolume 22 = .ok (.aload_n 0, 1) := by decide +kernel
theorem dX9_noteVolume_23 : decode cX9_noteVolume 23 = .ok (.iconst 1, 1) := by decide +kernel
theorem dX9_noteVolume_24 : decode cX9_noteVolume 24 = .ok (.invokevirtual 87, 3) := by decide +kernel
theorem dX9_noteVolume_27 : decode cX9_noteVolume 27 = .ok (.goto 11, 3) := by decide +kernel
theorem dX9_noteVolume_30 : decode cX9_noteVolume 30 = .ok (.iload_n 1, 1) := by decide +kernel
theorem dX9_noteVolume_31 : decode cX9_noteVolume 31 = .ok (.invokestatic 80, 3) := by decide +kernel
theorem dX9_noteVolume_34 : decode cX9_noteVolume 34 = .ok (.iload_n 2, 1) := by decide +kernel
theorem dX9_noteVolume_35 : decode cX9_noteVolume 35 = .ok (.invokestatic 77, 3) := by decide +kernel
theorem dX9_noteVolume_38 : decode cX9_noteVolume 38 = .ok (.ireturn, 1) := by decide +kernel
theorem dX9_columnVolume_0 : decode cX9_columnVolume 0 = .ok (.aload_n 0, 1) := by decide +kernel
theorem dX9_columnVolume_1 : decode cX9_columnVolume 1 = .ok (.iconst 0, 1) := by decide +kernel
theorem dX9_columnVolume_2 : decode cX9_columnVolume 2 = .ok (.putfield 1, 3) := by decide +kernel
theorem dX9_columnVolume_5 : decode cX9_columnVolume 5 = .ok (.aload_n 0, 1) := by decide +kernel
theorem dX9_columnVolume_6 : decode cX9_columnVolume 6 = .ok (.iload_n 1, 1) := by decide +kernel
theorem dX9_columnVolume_7 : decode cX9_columnVolume 7 = .ok (.iconst 0, 1) := by decide +kernel
theorem dX9_columnVolume_8 : decode cX9_columnVolume 8 = .ok (.iload_n 2, 1) := by decide +kernel
theorem dX9_columnVolume_9 : decode cX9_columnVolume 9 = .ok (.invokevirtual 99, 3) := by decide +kernel
theorem dX9_columnVolume_12 : decode cX9_columnVolume 12 = .ok (.ifCond .eq 12, 3) := by decide +kernel
theorem dX9_columnVolume_15 : decode cX9_columnVolume 15 = .ok (.aload_n 0, 1) := by decide +kernel
theorem dX9_columnVolume_16 : decode cX9_columnVolume 16 = .ok (.iload_n 1, 1) := by decide +kernel
theorem dX9_columnVolume_17 : decode cX9_columnVolume 17 = .ok (.iload_n 2, 1) := by decide +kernel
theorem dX9_columnVolume_18 : decode cX9_columnVolume 18 = .ok (.invokevirtual 150, 3) := by decide +kernel
theorem dX9_columnVolume_21 : decode cX9_columnVolume 21 = .ok (.goto 8, 3) := by decide +kernel
theorem dX9_columnVolume_24 : decode cX9_columnVolume 24 = .ok (.aload_n 0, 1) := by decide +kernel
theorem dX9_columnVolume_25 : decode cX9_columnVolume 25 = .ok (.iconst 1, 1) := by decide +kernel
theorem dX9_columnVolume_26 : decode cX9_columnVolume 26 = .ok (.invokevirtual 87, 3) := by decide +kernel
theorem dX9_columnVolume_29 : decode cX9_columnVolume 29 = .ok (.ireturn, 1) := by decide +kernel
theorem dX9_columnVolumeByTransposing_0 : decode cX9_columnVolumeByTransposing 0 = .ok (.aload_n 0, 1) := by decide +kernel
theorem dX9_columnVolumeByTransposing_1 : decode cX9_columnVolumeByTransposing 1 = .ok (.iload_n 1, 1) := by decide +kernel
theorem dX9_columnVolumeByTransposing_2 : decode cX9_columnVolumeByTransposing 2 = .ok (.iload_n 2, 1) := by decide +kernel
theorem dX9_columnVolumeByTransposing_3 : decode cX9_columnVolumeByTransposing 3 = .ok (.invokevirtual 187, 3) := by decide +kernel
theorem dX9_columnVolumeByTransposing_6 : decode cX9_columnVolumeByTransposing 6 = .ok (.ireturn, 1) := by decide +kernel
theorem dX9_nextVolume_0 : decode cX9_nextVolume 0 = .ok (.aload_n 0, 1) := by decide +kernel
theorem dX9_nextVolume_1 : decode cX9_nextVolume 1 = .ok (.iconst 0, 1) := by decide +kernel
theorem dX9_nextVolume_2 : decode cX9_nextVolume 2 = .ok (.putfield 1, 3) := by decide +kernel
theorem dX9_nextVolume_5 : decode cX9_nextVolume 5 = .ok (.aload_n 0, 1) := by decide +kernel
theorem dX9_nextVolume_6 : decode cX9_nextVolume 6 = .ok (.iload_n 1, 1) := by decide +kernel
theorem dX9_nextVolume_7 : decode cX9_nextVolume 7 = .ok (.invokevirtual 69, 3) := by decide +kernel
theorem dX9_nextVolume_10 : decode cX9_nextVolume 10 = .ok (.ifCond .eq 11, 3) := by decide +kernel
theorem dX9_nextVolume_13 : decode cX9_nextVolume 13 = .ok (.aload_n 0, 1) := by decide +kernel
theorem dX9_nextVolume_14 : decode cX9_nextVolume 14 = .ok (.iload_n 1, 1) := by decide +kernel
theorem dX9_nextVolume_15 : decode cX9_nextVolume 15 = .ok (.invokevirtual 153, 3) := by decide +kernel
theorem dX9_nextVolume_18 : decode cX9_nextVolume 18 = .ok (.goto 8, 3) := by decide +kernel
theorem dX9_nextVolume_21 : decode cX9_nextVolume 21 = .ok (.aload_n 0, 1) := by decide +kernel
theorem dX9_nextVolume_22 : decode cX9_nextVolume 22 = .ok (.iconst 1, 1) := by decide +kernel
theorem dX9_nextVolume_23 : decode cX9_nextVolume 23 = .ok (.invokevirtual 87, 3) := by decide +kernel
theorem dX9_nextVolume_26 : decode cX9_nextVolume 26 = .ok (.ireturn, 1) := by decide +kernel
theorem dX9_nextTotal_0 : decode cX9_nextTotal 0 = .ok (.aload_n 0, 1) := by decide +kernel
theorem dX9_nextTotal_1 : decode cX9_nextTotal 1 = .ok (.iconst 0, 1) := by decide +kernel
theorem dX9_nextTotal_2 : decode cX9_nextTotal 2 = .ok (.putfield 1, 3) := by decide +kernel
theorem dX9_nextTotal_5 : decode cX9_nextTotal 5 = .ok (.iconst 0, 1) := by decide +kernel
theorem dX9_nextTotal_6 : decode cX9_nextTotal 6 = .ok (.istore_n 1, 1) := by decide +kernel
theorem dX9_nextTotal_7 : decode cX9_nextTotal 7 = .ok (.iconst 0, 1) := by decide +kernel
theorem dX9_nextTotal_8 : decode cX9_nextTotal 8 = .ok (.istore_n 2, 1) := by decide +kernel
theorem dX9_nextTotal_9 : decode cX9_nextTotal 9 = .ok (.iload_n 2, 1) := by decide +kernel
theorem dX9_nextTotal_10 : decode cX9_nextTotal 10 = .ok (.aload_n 0, 1) := by decide +kernel
end
section
theorem dX9_nextTotal_11 : decode cX9_nextTotal 11 = .ok (.getfield 13, 3) := by decide +kernel
theorem dX9_nextTotal_14 : decode cX9_nextTotal 14 = .ok (.iconst 0, 1) := by decide +kernel
theorem dX9_nextTotal_15 : decode cX9_nextTotal 15 = .ok (.iaload, 1) := by decide +kernel
theorem dX9_nextTotal_16 : decode cX9_nextTotal 16 = .ok (.if_icmp .ge 17, 3) := by decide +kernel
theorem dX9_nextTotal_19 : decode cX9_nextTotal 19 = .ok (.iload_n 1, 1) := by decide +kernel
theorem dX9_nextTotal_20 : decode cX9_nextTotal 20 = .ok (.aload_n 0, 1) := by decide +kernel
theorem dX9_nextTotal_21 : decode cX9_nextTotal 21 = .ok (.iload_n 2, 1) := by decide +kernel
theorem dX9_nextTotal_22 : decode cX9_nextTotal 22 = .ok (.invokevirtual 153, 3) := by decide +kernel
theorem dX9_nextTotal_25 : decode cX9_nextTotal 25 = .ok (.iadd, 1) := by decide +kernel
theorem dX9_nextTotal_26 : decode cX9_nextTotal 26 = .ok (.istore_n 1, 1) := by decide +kernel
theorem dX9_nextTotal_27 : decode cX9_nextTotal 27 = .ok (.iinc 2 1, 3) := by decide +kernel
theorem dX9_nextTotal_30 : decode cX9_nextTotal 30 = .ok (.goto (-21), 3) := by decide +kernel
theorem dX9_nextTotal_33 : decode cX9_nextTotal 33 = .ok (.iload_n 1, 1) := by decide +kernel
theorem dX9_nextTotal_34 : decode cX9_nextTotal 34 = .ok (.ireturn, 1) := by decide +kernel
theorem dX9_isPeriod_0 : decode cX9_isPeriod 0 = .ok (.iconst 0, 1) := by decide +kernel
theorem dX9_isPeriod_1 : decode cX9_isPeriod 1 = .ok (.istore_n 2, 1) := by decide +kernel
theorem dX9_isPeriod_2 : decode cX9_isPeriod 2 = .ok (.iload_n 2, 1) := by decide +kernel
theorem dX9_isPeriod_3 : decode cX9_isPeriod 3 = .ok (.aload_n 0, 1) := by decide +kernel
theorem dX9_isPeriod_4 : decode cX9_isPeriod 4 = .ok (.getfield 13, 3) := by decide +kernel
theorem dX9_isPeriod_7 : decode cX9_isPeriod 7 = .ok (.iconst 0, 1) := by decide +kernel
theorem dX9_isPeriod_8 : decode cX9_isPeriod 8 = .ok (.iaload, 1) := by decide +kernel
theorem dX9_isPeriod_9 : decode cX9_isPeriod 9 = .ok (.if_icmp .ge 22, 3) := by decide +kernel
theorem dX9_isPeriod_12 : decode cX9_isPeriod 12 = .ok (.iload_n 1, 1) := by decide +kernel
theorem dX9_isPeriod_13 : decode cX9_isPeriod 13 = .ok (.aload_n 0, 1) := by decide +kernel
theorem dX9_isPeriod_14 : decode cX9_isPeriod 14 = .ok (.iload_n 2, 1) := by decide +kernel
theorem dX9_isPeriod_15 : decode cX9_isPeriod 15 = .ok (.iconst 2, 1) := by decide +kernel
theorem dX9_isPeriod_16 : decode cX9_isPeriod 16 = .ok (.invokevirtual 61, 3) := by decide +kernel
theorem dX9_isPeriod_19 : decode cX9_isPeriod 19 = .ok (.irem, 1) := by decide +kernel
theorem dX9_isPeriod_20 : decode cX9_isPeriod 20 = .ok (.ifCond .eq 5, 3) := by decide +kernel
theorem dX9_isPeriod_23 : decode cX9_isPeriod 23 = .ok (.iconst 0, 1) := by decide +kernel
theorem dX9_isPeriod_24 : decode cX9_isPeriod 24 = .ok (.ireturn, 1) := by decide +kernel
theorem dX9_isPeriod_25 : decode cX9_isPeriod 25 = .ok (.iinc 2 1, 3) := by decide +kernel
theorem dX9_isPeriod_28 : decode cX9_isPeriod 28 = .ok (.goto (-26), 3) := by decide +kernel
theorem dX9_isPeriod_31 : decode cX9_isPeriod 31 = .ok (.iconst 1, 1) := by decide +kernel
theorem dX9_isPeriod_32 : decode cX9_isPeriod 32 = .ok (.ireturn, 1) := by decide +kernel
theorem dX9_period_0 : decode cX9_period 0 = .ok (.aload_n 0, 1) := by decide +kernel
theorem dX9_period_1 : decode cX9_period 1 = .ok (.iconst 0, 1) := by decide +kernel
theorem dX9_period_2 : decode cX9_period 2 = .ok (.putfield 1, 3) := by decide +kernel
theorem dX9_period_5 : decode cX9_period 5 = .ok (.iconst 1, 1) := by decide +kernel
theorem dX9_period_6 : decode cX9_period 6 = .ok (.istore_n 1, 1) := by decide +kernel
theorem dX9_period_7 : decode cX9_period 7 = .ok (.aload_n 0, 1) := by decide +kernel
theorem dX9_period_8 : decode cX9_period 8 = .ok (.iload_n 1, 1) := by decide +kernel
theorem dX9_period_9 : decode cX9_period 9 = .ok (.invokevirtual 190, 3) := by decide +kernel
theorem dX9_period_12 : decode cX9_period 12 = .ok (.ifCond .ne 9, 3) := by decide +kernel
theorem dX9_period_15 : decode cX9_period 15 = .ok (.iinc 1 1, 3) := by decide +kernel
theorem dX9_period_18 : decode cX9_period 18 = .ok (.goto (-11), 3) := by decide +kernel
theorem dX9_period_21 : decode cX9_period 21 = .ok (.iload_n 1, 1) := by decide +kernel
theorem dX9_period_22 : decode cX9_period 22 = .ok (.ireturn, 1) := by decide +kernel
theorem dX9_periodBySearch_0 : decode cX9_periodBySearch 0 = .ok (.aload_n 0, 1) := by decide +kernel
theorem dX9_periodBySearch_1 : decode cX9_periodBySearch 1 = .ok (.invokevirtual 193, 3) := by decide +kernel
theorem dX9_periodBySearch_4 : decode cX9_periodBySearch 4 = .ok (.ireturn, 1) := by decide +kernel
theorem dX9_looksAhead_0 : decode cX9_looksAhead 0 = .ok (.iconst 0, 1) := by decide +kernel
theorem dX9_looksAhead_1 : decode cX9_looksAhead 1 = .ok (.istore_n 1, 1) := by decide +kernel
theorem dX9_looksAhead_2 : decode cX9_looksAhead 2 = .ok (.iload_n 1, 1) := by decide +kernel
theorem dX9_looksAhead_3 : decode cX9_looksAhead 3 = .ok (.sipush 260, 3) := by decide +kernel
theorem dX9_looksAhead_6 : decode cX9_looksAhead 6 = .ok (.if_icmp .ge 21, 3) := by decide +kernel
theorem dX9_looksAhead_9 : decode cX9_looksAhead 9 = .ok (.aload_n 0, 1) := by decide +kernel
theorem dX9_looksAhead_10 : decode cX9_looksAhead 10 = .ok (.getfield 26, 3) := by decide +kernel
theorem dX9_looksAhead_13 : decode cX9_looksAhead 13 = .ok (.iload_n 1, 1) := by decide +kernel
theorem dX9_looksAhead_14 : decode cX9_looksAhead 14 = .ok (.aload_n 0, 1) := by decide +kernel
theorem dX9_looksAhead_15 : decode cX9_looksAhead 15 = .ok (.getfield 13, 3) := by decide +kernel
theorem dX9_looksAhead_18 : decode cX9_looksAhead 18 = .ok (.iload_n 1, 1) := by decide +kernel
theorem dX9_looksAhead_19 : decode cX9_looksAhead 19 = .ok (.iaload, 1) := by decide +kernel
theorem dX9_looksAhead_20 : decode cX9_looksAhead 20 = .ok (.iastore, 1) := by decide +kernel
theorem dX9_looksAhead_21 : decode cX9_looksAhead 21 = .ok (.iinc 1 1, 3) := by decide +kernel
theorem dX9_looksAhead_24 : decode cX9_looksAhead 24 = .ok (.goto (-22), 3) := by decide +kernel
theorem dX9_looksAhead_27 : decode cX9_looksAhead 27 = .ok (.return_, 1) := by decide +kernel
theorem dX9_looksBack_0 : decode cX9_looksBack 0 = .ok (.iconst 0, 1) := by decide +kernel
theorem dX9_looksBack_1 : decode cX9_looksBack 1 = .ok (.istore_n 1, 1) := by decide +kernel
theorem dX9_looksBack_2 : decode cX9_looksBack 2 = .ok (.iload_n 1, 1) := by decide +kernel
theorem dX9_looksBack_3 : decode cX9_looksBack 3 = .ok (.sipush 260, 3) := by decide +kernel
theorem dX9_looksBack_6 : decode cX9_looksBack 6 = .ok (.if_icmp .ge 21, 3) := by decide +kernel
theorem dX9_looksBack_9 : decode cX9_looksBack 9 = .ok (.aload_n 0, 1) := by decide +kernel
theorem dX9_looksBack_10 : decode cX9_looksBack 10 = .ok (.getfield 13, 3) := by decide +kernel
theorem dX9_looksBack_13 : decode cX9_looksBack 13 = .ok (.iload_n 1, 1) := by decide +kernel
theorem dX9_looksBack_14 : decode cX9_looksBack 14 = .ok (.aload_n 0, 1) := by decide +kernel
theorem dX9_looksBack_15 : decode cX9_looksBack 15 = .ok (.getfield 26, 3) := by decide +kernel
theorem dX9_looksBack_18 : decode cX9_looksBack 18 = .ok (.iload_n 1, 1) := by decide +kernel
theorem dX9_looksBack_19 : decode cX9_looksBack 19 = .ok (.iaload, 1) := by decide +kernel
theorem dX9_looksBack_20 : decode cX9_looksBack 20 = .ok (.iastore, 1) := by decide +kernel
theorem dX9_looksBack_21 : decode cX9_looksBack 21 = .ok (.iinc 1 1, 3) := by decide +kernel
theorem dX9_looksBack_24 : decode cX9_looksBack 24 = .ok (.goto (-22), 3) := by decide +kernel
theorem dX9_looksBack_27 : decode cX9_looksBack 27 = .ok (.return_, 1) := by decide +kernel
theorem dX9_beatsUntilBreak_0 : decode cX9_beatsUntilBreak 0 = .ok (.aload_n 0, 1) := by decide +kernel
theorem dX9_beatsUntilBreak_1 : decode cX9_beatsUntilBreak 1 = .ok (.iconst 0, 1) := by decide +kernel
theorem dX9_beatsUntilBreak_2 : decode cX9_beatsUntilBreak 2 = .ok (.putfield 1, 3) := by decide +kernel
theorem dX9_beatsUntilBreak_5 : decode cX9_beatsUntilBreak 5 = .ok (.aload_n 0, 1) := by decide +kernel
theorem dX9_beatsUntilBreak_6 : decode cX9_beatsUntilBreak 6 = .ok (.invokevirtual 196, 3) := by decide +kernel
theorem dX9_beatsUntilBreak_9 : decode cX9_beatsUntilBreak 9 = .ok (.aload_n 0, 1) := by decide +kernel
theorem dX9_beatsUntilBreak_10 : decode cX9_beatsUntilBreak 10 = .ok (.getfield 13, 3) := by decide +kernel
theorem dX9_beatsUntilBreak_13 : decode cX9_beatsUntilBreak 13 = .ok (.iconst 4, 1) := by decide +kernel
theorem dX9_beatsUntilBreak_14 : decode cX9_beatsUntilBreak 14 = .ok (.iaload, 1) := by decide +kernel
theorem dX9_beatsUntilBreak_15 : decode cX9_beatsUntilBreak 15 = .ok (.istore_n 1, 1) := by decide +kernel
theorem dX9_beatsUntilBreak_16 : decode cX9_beatsUntilBreak 16 = .ok (.iconst 0, 1) := by decide +kernel
theorem dX9_beatsUntilBreak_17 : decode cX9_beatsUntilBreak 17 = .ok (.istore_n 2, 1) := by decide +kernel
theorem dX9_beatsUntilBreak_18 : decode cX9_beatsUntilBreak 18 = .ok (.iload_n 2, 1) := by decide +kernel
theorem dX9_beatsUntilBreak_19 : decode cX9_beatsUntilBreak 19 = .ok (.bipush 60, 2) := by decide +kernel
theorem dX9_beatsUntilBreak_21 : decode cX9_beatsUntilBreak 21 = .ok (.if_icmp .ge 24, 3) := by decide +kernel
theorem dX9_beatsUntilBreak_24 : decode cX9_beatsUntilBreak 24 = .ok (.aload_n 0, 1) := by decide +kernel
theorem dX9_beatsUntilBreak_25 : decode cX9_beatsUntilBreak 25 = .ok (.getfield 13, 3) := by decide +kernel
theorem dX9_beatsUntilBreak_28 : decode cX9_beatsUntilBreak 28 = .ok (.iconst 4, 1) := by decide +kernel
theorem dX9_beatsUntilBreak_29 : decode cX9_beatsUntilBreak 29 = .ok (.iaload, 1) := by decide +kernel
theorem dX9_beatsUntilBreak_30 : decode cX9_beatsUntilBreak 30 = .ok (.iload_n 1, 1) := by decide +kernel
theorem dX9_beatsUntilBreak_31 : decode cX9_beatsUntilBreak 31 = .ok (.if_icmp .ne 14, 3) := by decide +kernel
theorem dX9_beatsUntilBreak_34 : decode cX9_beatsUntilBreak 34 = .ok (.aload_n 0, 1) := by decide +kernel
theorem dX9_beatsUntilBreak_35 : decode cX9_beatsUntilBreak 35 = .ok (.invokevirtual 167, 3) := by decide +kernel
theorem dX9_beatsUntilBreak_38 : decode cX9_beatsUntilBreak 38 = .ok (.pop, 1) := by decide +kernel
theorem dX9_beatsUntilBreak_39 : decode cX9_beatsUntilBreak 39 = .ok (.iinc 2 1, 3) := by decide +kernel
theorem dX9_beatsUntilBreak_42 : decode cX9_beatsUntilBreak 42 = .ok (.goto (-24), 3) := by decide +kernel
theorem dX9_beatsUntilBreak_45 : decode cX9_beatsUntilBreak 45 = .ok (.aload_n 0, 1) := by decide +kernel
theorem dX9_beatsUntilBreak_46 : decode cX9_beatsUntilBreak 46 = .ok (.getfield 13, 3) := by decide +kernel
theorem dX9_beatsUntilBreak_49 : decode cX9_beatsUntilBreak 49 = .ok (.iconst 4, 1) := by decide +kernel
theorem dX9_beatsUntilBreak_50 : decode cX9_beatsUntilBreak 50 = .ok (.iaload, 1) := by decide +kernel
theorem dX9_beatsUntilBreak_51 : decode cX9_beatsUntilBreak 51 = .ok (.iload_n 1, 1) := by decide +kernel
theorem dX9_beatsUntilBreak_52 : decode cX9_beatsUntilBreak 52 = .ok (.if_icmp .le 7, 3) := by decide +kernel
theorem dX9_beatsUntilBreak_55 : decode cX9_beatsUntilBreak 55 = .ok (.iconst 1, 1) := by decide +kernel
theorem dX9_beatsUntilBreak_56 : decode cX9_beatsUntilBreak 56 = .ok (.goto 4, 3) := by decide +kernel
theorem dX9_beatsUntilBreak_59 : decode cX9_beatsUntilBreak 59 = .ok (.iconst 0, 1) := by decide +kernel
theorem dX9_beatsUntilBreak_60 : decode cX9_beatsUntilBreak 60 = .ok (.istore_n 3, 1) := by decide +kernel
theorem dX9_beatsUntilBreak_61 : decode cX9_beatsUntilBreak 61 = .ok (.aload_n 0, 1) := by decide +kernel
theorem dX9_beatsUntilBreak_62 : decode cX9_beatsUntilBreak 62 = .ok (.invokevirtual 199, 3) := by decide +kernel
theorem dX9_beatsUntilBreak_65 : decode cX9_beatsUntilBreak 65 = .ok (.iload_n 3, 1) := by decide +kernel
theorem dX9_beatsUntilBreak_66 : decode cX9_beatsUntilBreak 66 = .ok (.ifCond .eq 7, 3) := by decide +kernel
theorem dX9_beatsUntilBreak_69 : decode cX9_beatsUntilBreak 69 = .ok (.iload_n 2, 1) := by decide +kernel
theorem dX9_beatsUntilBreak_70 : decode cX9_beatsUntilBreak 70 = .ok (.goto 8, 3) := by decide +kernel
theorem dX9_beatsUntilBreak_73 : decode cX9_beatsUntilBreak 73 = .ok (.aload_n 0, 1) := by decide +kernel
theorem dX9_beatsUntilBreak_74 : decode cX9_beatsUntilBreak 74 = .ok (.iconst 1, 1) := by decide +kernel
theorem dX9_beatsUntilBreak_75 : decode cX9_beatsUntilBreak 75 = .ok (.invokevirtual 87, 3) := by decide +kernel
theorem dX9_beatsUntilBreak_78 : decode cX9_beatsUntilBreak 78 = .ok (.ireturn, 1) := by decide +kernel
theorem dX9_totalWithin_0 : decode cX9_totalWithin 0 = .ok (.aload_n 0, 1) := by decide +kernel
theorem dX9_totalWithin_1 : decode cX9_totalWithin 1 = .ok (.iconst 0, 1) := by decide +kernel
theorem dX9_totalWithin_2 : decode cX9_totalWithin 2 = .ok (.putfield 1, 3) := by decide +kernel
theorem dX9_totalWithin_5 : decode cX9_totalWithin 5 = .ok (.iload_n 1, 1) := by decide +kernel
theorem dX9_totalWithin_6 : decode cX9_totalWithin 6 = .ok (.iconst 0, 1) := by decide +kernel
theorem dX9_totalWithin_7 : decode cX9_totalWithin 7 = .ok (.bipush 60, 2) := by decide +kernel
theorem dX9_totalWithin_9 : decode cX9_totalWithin 9 = .ok (.invokestatic 57, 3) := by decide +kernel
theorem dX9_totalWithin_12 : decode cX9_totalWithin 12 = .ok (.ifCond .ne 9, 3) := by decide +kernel
theorem dX9_totalWithin_15 : decode cX9_totalWithin 15 = .ok (.aload_n 0, 1) := by decide +kernel
theorem dX9_totalWithin_16 : decode cX9_totalWithin 16 = .ok (.iconst 1, 1) := by decide +kernel
theorem dX9_totalWithin_17 : decode cX9_totalWithin 17 = .ok (.invokevirtual 87, 3) := by decide +kernel
theorem dX9_totalWithin_20 : decode cX9_totalWithin 20 = .ok (.ireturn, 1) := by decide +kernel
theorem dX9_totalWithin_21 : decode cX9_totalWithin 21 = .ok (.aload_n 0, 1) := by decide +kernel
theorem dX9_totalWithin_22 : decode cX9_totalWithin 22 = .ok (.invokevirtual 196, 3) := by decide +kernel
theorem dX9_totalWithin_25 : decode cX9_totalWithin 25 = .ok (.aload_n 0, 1) := by decide +kernel
theorem dX9_totalWithin_26 : decode cX9_totalWithin 26 = .ok (.iload_n 1, 1) := by decide +kernel
theorem dX9_totalWithin_27 : decode cX9_totalWithin 27 = .ok (.invokevirtual 171, 3) := by decide +kernel
theorem dX9_totalWithin_30 : decode cX9_totalWithin 30 = .ok (.istore_n 2, 1) := by decide +kernel
theorem dX9_totalWithin_31 : decode cX9_totalWithin 31 = .ok (.aload_n 0, 1) := by decide +kernel
theorem dX9_totalWithin_32 : decode cX9_totalWithin 32 = .ok (.invokevirtual 199, 3) := by decide +kernel
theorem dX9_totalWithin_35 : decode cX9_totalWithin 35 = .ok (.iload_n 2, 1) := by decide +kernel
theorem dX9_totalWithin_36 : decode cX9_totalWithin 36 = .ok (.ireturn, 1) := by decide +kernel
theorem dX9_breakCount_0 : decode cX9_breakCount 0 = .ok (.aload_n 0, 1) := by decide +kernel
theorem dX9_breakCount_1 : decode cX9_breakCount 1 = .ok (.iconst 4, 1) := by decide +kernel
theorem dX9_breakCount_2 : decode cX9_breakCount 2 = .ok (.invokevirtual 177, 3) := by decide +kernel
theorem dX9_breakCount_5 : decode cX9_breakCount 5 = .ok (.ireturn, 1) := by decide +kernel
theorem dX9_playedVolume_0 : decode cX9_playedVolume 0 = .ok (.aload_n 0, 1) := by decide +kernel
theorem dX9_playedVolume_1 : decode cX9_playedVolume 1 = .ok (.iload_n 1, 1) := by decide +kernel
theorem dX9_playedVolume_2 : decode cX9_playedVolume 2 = .ok (.bipush 6, 2) := by decide +kernel
theorem dX9_playedVolume_4 : decode cX9_playedVolume 4 = .ok (.invokevirtual 180, 3) := by decide +kernel
theorem dX9_playedVolume_7 : decode cX9_playedVolume 7 = .ok (.ireturn, 1) := by decide +kernel
theorem dX9_totalVolume_0 : decode cX9_totalVolume 0 = .ok (.aload_n 0, 1) := by decide +kernel
theorem dX9_totalVolume_1 : decode cX9_totalVolume 1 = .ok (.iconst 0, 1) := by decide +kernel
theorem dX9_totalVolume_2 : decode cX9_totalVolume 2 = .ok (.putfield 1, 3) := by decide +kernel
theorem dX9_totalVolume_5 : decode cX9_totalVolume 5 = .ok (.aload_n 0, 1) := by decide +kernel
theorem dX9_totalVolume_6 : decode cX9_totalVolume 6 = .ok (.getfield 13, 3) := by decide +kernel
theorem dX9_totalVolume_9 : decode cX9_totalVolume 9 = .ok (.iconst 5, 1) := by decide +kernel
theorem dX9_totalVolume_10 : decode cX9_totalVolume 10 = .ok (.iaload, 1) := by decide +kernel
theorem dX9_totalVolume_11 : decode cX9_totalVolume 11 = .ok (.i2l, 1) := by decide +kernel
theorem dX9_totalVolume_12 : decode cX9_totalVolume 12 = .ok (.lreturn, 1) := by decide +kernel
theorem dX9_soundsOf_0 : decode cX9_soundsOf 0 = .ok (.aload_n 0, 1) := by decide +kernel
theorem dX9_soundsOf_1 : decode cX9_soundsOf 1 = .ok (.getfield 13, 3) := by decide +kernel
theorem dX9_soundsOf_4 : decode cX9_soundsOf 4 = .ok (.bipush 18, 2) := by decide +kernel
theorem dX9_soundsOf_6 : decode cX9_soundsOf 6 = .ok (.bipush 9, 2) := by decide +kernel
theorem dX9_soundsOf_8 : decode cX9_soundsOf 8 = .ok (.iload_n 1, 1) := by decide +kernel
theorem dX9_soundsOf_9 : decode cX9_soundsOf 9 = .ok (.imul, 1) := by decide +kernel
theorem dX9_soundsOf_10 : decode cX9_soundsOf 10 = .ok (.iadd, 1) := by decide +kernel
theorem dX9_soundsOf_11 : decode cX9_soundsOf 11 = .ok (.iload_n 2, 1) := by decide +kernel
theorem dX9_soundsOf_12 : decode cX9_soundsOf 12 = .ok (.iadd, 1) := by decide +kernel
theorem dX9_soundsOf_13 : decode cX9_soundsOf 13 = .ok (.iconst 1, 1) := by decide +kernel
theorem dX9_soundsOf_14 : decode cX9_soundsOf 14 = .ok (.isub, 1) := by decide +kernel
theorem dX9_soundsOf_15 : decode cX9_soundsOf 15 = .ok (.iaload, 1) := by decide +kernel
theorem dX9_soundsOf_16 : decode cX9_soundsOf 16 = .ok (.ireturn, 1) := by decide +kernel
theorem dX9_volumeBySounds_0 : decode cX9_volumeBySounds 0 = .ok (.iconst 0, 1) := by decide +kernel
theorem dX9_volumeBySounds_1 : decode cX9_volumeBySounds 1 = .ok (.istore_n 1, 1) := by decide +kernel
theorem dX9_volumeBySounds_2 : decode cX9_volumeBySounds 2 = .ok (.iconst 0, 1) := by decide +kernel
theorem dX9_volumeBySounds_3 : decode cX9_volumeBySounds 3 = .ok (.istore_n 2, 1) := by decide +kernel
theorem dX9_volumeBySounds_4 : decode cX9_volumeBySounds 4 = .ok (.iload_n 2, 1) := by decide +kernel
theorem dX9_volumeBySounds_5 : decode cX9_volumeBySounds 5 = .ok (.iconst 3, 1) := by decide +kernel
theorem dX9_volumeBySounds_6 : decode cX9_volumeBySounds 6 = .ok (.if_icmp .ge 38, 3) := by decide +kernel
theorem dX9_volumeBySounds_9 : decode cX9_volumeBySounds 9 = .ok (.iconst 1, 1) := by decide +kernel
theorem dX9_volumeBySounds_10 : decode cX9_volumeBySounds 10 = .ok (.istore_n 3, 1) := by decide +kernel
theorem dX9_volumeBySounds_11 : decode cX9_volumeBySounds 11 = .ok (.iload_n 3, 1) := by decide +kernel
theorem dX9_volumeBySounds_12 : decode cX9_volumeBySounds 12 = .ok (.bipush 9, 2) := by decide +kernel
theorem dX9_volumeBySounds_14 : decode cX9_volumeBySounds 14 = .ok (.if_icmp .gt 24, 3) := by decide +kernel
theorem dX9_volumeBySounds_17 : decode cX9_volumeBySounds 17 = .ok (.iload_n 1, 1) := by decide +kernel
theorem dX9_volumeBySounds_18 : decode cX9_volumeBySounds 18 = .ok (.aload_n 0, 1) := by decide +kernel
theorem dX9_volumeBySounds_19 : decode cX9_volumeBySounds 19 = .ok (.iload_n 2, 1) := by decide +kernel
theorem dX9_volumeBySounds_20 : decode cX9_volumeBySounds 20 = .ok (.iload_n 3, 1) := by decide +kernel
theorem dX9_volumeBySounds_21 : decode cX9_volumeBySounds 21 = .ok (.invokevirtual 202, 3) := by decide +kernel
theorem dX9_volumeBySounds_24 : decode cX9_volumeBySounds 24 = .ok (.iload_n 2, 1) := by decide +kernel
theorem dX9_volumeBySounds_25 : decode cX9_volumeBySounds 25 = .ok (.iload_n 3, 1) := by decide +kernel
theorem dX9_volumeBySounds_26 : decode cX9_volumeBySounds 26 = .ok (.invokestatic 77, 3) := by decide +kernel
theorem dX9_volumeBySounds_29 : decode cX9_volumeBySounds 29 = .ok (.imul, 1) := by decide +kernel
theorem dX9_volumeBySounds_30 : decode cX9_volumeBySounds 30 = .ok (.iadd, 1) := by decide +kernel
theorem dX9_volumeBySounds_31 : decode cX9_volumeBySounds 31 = .ok (.istore_n 1, 1) := by decide +kernel
theorem dX9_volumeBySounds_32 : decode cX9_volumeBySounds 32 = .ok (.iinc 3 1, 3) := by decide +kernel
theorem dX9_volumeBySounds_35 : decode cX9_volumeBySounds 35 = .ok (.goto (-24), 3) := by decide +kernel
theorem dX9_volumeBySounds_38 : decode cX9_volumeBySounds 38 = .ok (.iinc 2 1, 3) := by decide +kernel
theorem dX9_volumeBySounds_41 : decode cX9_volumeBySounds 41 = .ok (.goto (-37), 3) := by decide +kernel
theorem dX9_volumeBySounds_44 : decode cX9_volumeBySounds 44 = .ok (.iload_n 1, 1) := by decide +kernel
theorem dX9_volumeBySounds_45 : decode cX9_volumeBySounds 45 = .ok (.ireturn, 1) := by decide +kernel
theorem dX9_totalVolumeBySounds_0 : decode cX9_totalVolumeBySounds 0 = .ok (.aload_n 0, 1) := by decide +kernel
theorem dX9_totalVolumeBySounds_1 : decode cX9_totalVolumeBySounds 1 = .ok (.iconst 0, 1) := by decide +kernel
theorem dX9_totalVolumeBySounds_2 : decode cX9_totalVolumeBySounds 2 = .ok (.putfield 1, 3) := by decide +kernel
theorem dX9_totalVolumeBySounds_5 : decode cX9_totalVolumeBySounds 5 = .ok (.aload_n 0, 1) := by decide +kernel
theorem dX9_totalVolumeBySounds_6 : decode cX9_totalVolumeBySounds 6 = .ok (.invokevirtual 205, 3) := by decide +kernel
theorem dX9_totalVolumeBySounds_9 : decode cX9_totalVolumeBySounds 9 = .ok (.i2l, 1) := by decide +kernel
theorem dX9_totalVolumeBySounds_10 : decode cX9_totalVolumeBySounds 10 = .ok (.lreturn, 1) := by decide +kernel
theorem dX9_soundCount_0 : decode cX9_soundCount 0 = .ok (.aload_n 0, 1) := by decide +kernel
theorem dX9_soundCount_1 : decode cX9_soundCount 1 = .ok (.iconst 0, 1) := by decide +kernel
theorem dX9_soundCount_2 : decode cX9_soundCount 2 = .ok (.putfield 1, 3) := by decide +kernel
theorem dX9_soundCount_5 : decode cX9_soundCount 5 = .ok (.iload_n 1, 1) := by decide +kernel
theorem dX9_soundCount_6 : decode cX9_soundCount 6 = .ok (.invokestatic 80, 3) := by decide +kernel
theorem dX9_soundCount_9 : decode cX9_soundCount 9 = .ok (.ifCond .lt 13, 3) := by decide +kernel
theorem dX9_soundCount_12 : decode cX9_soundCount 12 = .ok (.iload_n 2, 1) := by decide +kernel
theorem dX9_soundCount_13 : decode cX9_soundCount 13 = .ok (.iconst 1, 1) := by decide +kernel
theorem dX9_soundCount_14 : decode cX9_soundCount 14 = .ok (.bipush 9, 2) := by decide +kernel
theorem dX9_soundCount_16 : decode cX9_soundCount 16 = .ok (.invokestatic 57, 3) := by decide +kernel
theorem dX9_soundCount_19 : decode cX9_soundCount 19 = .ok (.ifCond .ne 11, 3) := by decide +kernel
theorem dX9_soundCount_22 : decode cX9_soundCount 22 = .ok (.aload_n 0, 1) := by decide +kernel
theorem dX9_soundCount_23 : decode cX9_soundCount 23 = .ok (.iconst 1, 1) := by decide +kernel
theorem dX9_soundCount_24 : decode cX9_soundCount 24 = .ok (.invokevirtual 87, 3) := by decide +kernel
theorem dX9_soundCount_27 : decode cX9_soundCount 27 = .ok (.goto 12, 3) := by decide +kernel
theorem dX9_soundCount_30 : decode cX9_soundCount 30 = .ok (.aload_n 0, 1) := by decide +kernel
theorem dX9_soundCount_31 : decode cX9_soundCount 31 = .ok (.iload_n 1, 1) := by decide +kernel
theorem dX9_soundCount_32 : decode cX9_soundCount 32 = .ok (.invokestatic 80, 3) := by decide +kernel
theorem dX9_soundCount_35 : decode cX9_soundCount 35 = .ok (.iload_n 2, 1) := by decide +kernel
theorem dX9_soundCount_36 : decode cX9_soundCount 36 = .ok (.invokevirtual 202, 3) := by decide +kernel
theorem dX9_soundCount_39 : decode cX9_soundCount 39 = .ok (.ireturn, 1) := by decide +kernel
theorem dX9_greatestTotal_0 : decode cX9_greatestTotal 0 = .ok (.aload_n 0, 1) := by decide +kernel
theorem dX9_greatestTotal_1 : decode cX9_greatestTotal 1 = .ok (.iconst 0, 1) := by decide +kernel
theorem dX9_greatestTotal_2 : decode cX9_greatestTotal 2 = .ok (.putfield 1, 3) := by decide +kernel
theorem dX9_greatestTotal_5 : decode cX9_greatestTotal 5 = .ok (.aload_n 0, 1) := by decide +kernel
theorem dX9_greatestTotal_6 : decode cX9_greatestTotal 6 = .ok (.getfield 13, 3) := by decide +kernel
theorem dX9_greatestTotal_9 : decode cX9_greatestTotal 9 = .ok (.iconst 1, 1) := by decide +kernel
theorem dX9_greatestTotal_10 : decode cX9_greatestTotal 10 = .ok (.iaload, 1) := by decide +kernel
theorem dX9_greatestTotal_11 : decode cX9_greatestTotal 11 = .ok (.ifCond .ne 11, 3) := by decide +kernel
theorem dX9_greatestTotal_14 : decode cX9_greatestTotal 14 = .ok (.aload_n 0, 1) := by decide +kernel
theorem dX9_greatestTotal_15 : decode cX9_greatestTotal 15 = .ok (.iconst 1, 1) := by decide +kernel
theorem dX9_greatestTotal_16 : decode cX9_greatestTotal 16 = .ok (.invokevirtual 87, 3) := by decide +kernel
theorem dX9_greatestTotal_19 : decode cX9_greatestTotal 19 = .ok (.goto 10, 3) := by decide +kernel
theorem dX9_greatestTotal_22 : decode cX9_greatestTotal 22 = .ok (.aload_n 0, 1) := by decide +kernel
theorem dX9_greatestTotal_23 : decode cX9_greatestTotal 23 = .ok (.getfield 13, 3) := by decide +kernel
theorem dX9_greatestTotal_26 : decode cX9_greatestTotal 26 = .ok (.bipush 6, 2) := by decide +kernel
theorem dX9_greatestTotal_28 : decode cX9_greatestTotal 28 = .ok (.iaload, 1) := by decide +kernel
theorem dX9_greatestTotal_29 : decode cX9_greatestTotal 29 = .ok (.ireturn, 1) := by decide +kernel
theorem dX9_loggedTotal_0 : decode cX9_loggedTotal 0 = .ok (.aload_n 0, 1) := by decide +kernel
theorem dX9_loggedTotal_1 : decode cX9_loggedTotal 1 = .ok (.iconst 0, 1) := by decide +kernel
theorem dX9_loggedTotal_2 : decode cX9_loggedTotal 2 = .ok (.putfield 1, 3) := by decide +kernel
theorem dX9_loggedTotal_5 : decode cX9_loggedTotal 5 = .ok (.iload_n 1, 1) := by decide +kernel
theorem dX9_loggedTotal_6 : decode cX9_loggedTotal 6 = .ok (.iconst 0, 1) := by decide +kernel
theorem dX9_loggedTotal_7 : decode cX9_loggedTotal 7 = .ok (.aload_n 0, 1) := by decide +kernel
theorem dX9_loggedTotal_8 : decode cX9_loggedTotal 8 = .ok (.getfield 13, 3) := by decide +kernel
theorem dX9_loggedTotal_11 : decode cX9_loggedTotal 11 = .ok (.bipush 7, 2) := by decide +kernel
theorem dX9_loggedTotal_13 : decode cX9_loggedTotal 13 = .ok (.iaload, 1) := by decide +kernel
theorem dX9_loggedTotal_14 : decode cX9_loggedTotal 14 = .ok (.iconst 1, 1) := by decide +kernel
theorem dX9_loggedTotal_15 : decode cX9_loggedTotal 15 = .ok (.isub, 1) := by decide +kernel
theorem dX9_loggedTotal_16 : decode cX9_loggedTotal 16 = .ok (.invokestatic 57, 3) := by decide +kernel
theorem dX9_loggedTotal_19 : decode cX9_loggedTotal 19 = .ok (.ifCond .eq 15, 3) := by decide +kernel
theorem dX9_loggedTotal_22 : decode cX9_loggedTotal 22 = .ok (.aload_n 0, 1) := by decide +kernel
theorem dX9_loggedTotal_23 : decode cX9_loggedTotal 23 = .ok (.getfield 13, 3) := by decide +kernel
theorem dX9_loggedTotal_26 : decode cX9_loggedTotal 26 = .ok (.bipush 8, 2) := by decide +kernel
theorem dX9_loggedTotal_28 : decode cX9_loggedTotal 28 = .ok (.iload_n 1, 1) := by decide +kernel
theorem dX9_loggedTotal_29 : decode cX9_loggedTotal 29 = .ok (.iadd, 1) := by decide +kernel
theorem dX9_loggedTotal_30 : decode cX9_loggedTotal 30 = .ok (.iaload, 1) := by decide +kernel
theorem dX9_loggedTotal_31 : decode cX9_loggedTotal 31 = .ok (.goto 8, 3) := by decide +kernel
theorem dX9_loggedTotal_34 : decode cX9_loggedTotal 34 = .ok (.aload_n 0, 1) := by decide +kernel
theorem dX9_loggedTotal_35 : decode cX9_loggedTotal 35 = .ok (.iconst 1, 1) := by decide +kernel
theorem dX9_loggedTotal_36 : decode cX9_loggedTotal 36 = .ok (.invokevirtual 87, 3) := by decide +kernel
theorem dX9_loggedTotal_39 : decode cX9_loggedTotal 39 = .ok (.ireturn, 1) := by decide +kernel
theorem dX9_isAhead_0 : decode cX9_isAhead 0 = .ok (.aload_n 0, 1) := by decide +kernel
theorem dX9_isAhead_1 : decode cX9_isAhead 1 = .ok (.iload_n 1, 1) := by decide +kernel
theorem dX9_isAhead_2 : decode cX9_isAhead 2 = .ok (.bipush 6, 2) := by decide +kernel
theorem dX9_isAhead_4 : decode cX9_isAhead 4 = .ok (.invokevirtual 61, 3) := by decide +kernel
theorem dX9_isAhead_7 : decode cX9_isAhead 7 = .ok (.aload_n 0, 1) := by decide +kernel
theorem dX9_isAhead_8 : decode cX9_isAhead 8 = .ok (.iload_n 2, 1) := by decide +kernel
theorem dX9_isAhead_9 : decode cX9_isAhead 9 = .ok (.bipush 6, 2) := by decide +kernel
theorem dX9_isAhead_11 : decode cX9_isAhead 11 = .ok (.invokevirtual 61, 3) := by decide +kernel
theorem dX9_isAhead_14 : decode cX9_isAhead 14 = .ok (.isub, 1) := by decide +kernel
theorem dX9_isAhead_15 : decode cX9_isAhead 15 = .ok (.istore_n 3, 1) := by decide +kernel
theorem dX9_isAhead_16 : decode cX9_isAhead 16 = .ok (.aload_n 0, 1) := by decide +kernel
theorem dX9_isAhead_17 : decode cX9_isAhead 17 = .ok (.iload_n 2, 1) := by decide +kernel
theorem dX9_isAhead_18 : decode cX9_isAhead 18 = .ok (.iconst 4, 1) := by decide +kernel
theorem dX9_isAhead_19 : decode cX9_isAhead 19 = .ok (.invokevirtual 61, 3) := by decide +kernel
theorem dX9_isAhead_22 : decode cX9_isAhead 22 = .ok (.aload_n 0, 1) := by decide +kernel
theorem dX9_isAhead_23 : decode cX9_isAhead 23 = .ok (.iload_n 1, 1) := by decide +kernel
theorem dX9_isAhead_24 : decode cX9_isAhead 24 = .ok (.iconst 4, 1) := by decide +kernel
theorem dX9_isAhead_25 : decode cX9_isAhead 25 = .ok (.invokevirtual 61, 3) := by decide +kernel
theorem dX9_isAhead_28 : decode cX9_isAhead 28 = .ok (.isub, 1) := by decide +kernel
theorem dX9_isAhead_29 : decode cX9_isAhead 29 = .ok (.istore 4, 2) := by decide +kernel
theorem dX9_isAhead_31 : decode cX9_isAhead 31 = .ok (.iload_n 3, 1) := by decide +kernel
theorem dX9_isAhead_32 : decode cX9_isAhead 32 = .ok (.ifCond .eq 13, 3) := by decide +kernel
theorem dX9_isAhead_35 : decode cX9_isAhead 35 = .ok (.iload_n 3, 1) := by decide +kernel
theorem dX9_isAhead_36 : decode cX9_isAhead 36 = .ok (.ifCond .le 7, 3) := by decide +kernel
theorem dX9_isAhead_39 : decode cX9_isAhead 39 = .ok (.iconst 1, 1) := by decide +kernel
theorem dX9_isAhead_40 : decode cX9_isAhead 40 = .ok (.goto 4, 3) := by decide +kernel
theorem dX9_isAhead_43 : decode cX9_isAhead 43 = .ok (.iconst 0, 1) := by decide +kernel
theorem dX9_isAhead_44 : decode cX9_isAhead 44 = .ok (.ireturn, 1) := by decide +kernel
theorem dX9_isAhead_45 : decode cX9_isAhead 45 = .ok (.iload 4, 2) := by decide +kernel
theorem dX9_isAhead_47 : decode cX9_isAhead 47 = .ok (.ifCond .eq 16, 3) := by decide +kernel
theorem dX9_isAhead_50 : decode cX9_isAhead 50 = .ok (.iload 4, 2) := by decide +kernel
theorem dX9_isAhead_52 : decode cX9_isAhead 52 = .ok (.ifCond .le 7, 3) := by decide +kernel
theorem dX9_isAhead_55 : decode cX9_isAhead 55 = .ok (.iconst 1, 1) := by decide +kernel
theorem dX9_isAhead_56 : decode cX9_isAhead 56 = .ok (.goto 17, 3) := by decide +kernel
theorem dX9_isAhead_59 : decode cX9_isAhead 59 = .ok (.iconst 0, 1) := by decide +kernel
theorem dX9_isAhead_60 : decode cX9_isAhead 60 = .ok (.goto 13, 3) := by decide +kernel
theorem dX9_isAhead_63 : decode cX9_isAhead 63 = .ok (.iload_n 1, 1) := by decide +kernel
theorem dX9_isAhead_64 : decode cX9_isAhead 64 = .ok (.iload_n 2, 1) := by decide +kernel
theorem dX9_isAhead_65 : decode cX9_isAhead 65 = .ok (.if_icmp .ge 7, 3) := by decide +kernel
theorem dX9_isAhead_68 : decode cX9_isAhead 68 = .ok (.iconst 1, 1) := by decide +kernel
theorem dX9_isAhead_69 : decode cX9_isAhead 69 = .ok (.goto 4, 3) := by decide +kernel
theorem dX9_isAhead_72 : decode cX9_isAhead 72 = .ok (.iconst 0, 1) := by decide +kernel
theorem dX9_isAhead_73 : decode cX9_isAhead 73 = .ok (.ireturn, 1) := by decide +kernel
theorem dX9_sectionByVolume_0 : decode cX9_sectionByVolume 0 = .ok (.aload_n 0, 1) := by decide +kernel
theorem dX9_sectionByVolume_1 : decode cX9_sectionByVolume 1 = .ok (.iconst 0, 1) := by decide +kernel
theorem dX9_sectionByVolume_2 : decode cX9_sectionByVolume 2 = .ok (.putfield 1, 3) := by decide +kernel
theorem dX9_sectionByVolume_5 : decode cX9_sectionByVolume 5 = .ok (.iconst 0, 1) := by decide +kernel
theorem dX9_sectionByVolume_6 : decode cX9_sectionByVolume 6 = .ok (.istore_n 2, 1) := by decide +kernel
theorem dX9_sectionByVolume_7 : decode cX9_sectionByVolume 7 = .ok (.iload_n 2, 1) := by decide +kernel
theorem dX9_sectionByVolume_8 : decode cX9_sectionByVolume 8 = .ok (.aload_n 0, 1) := by decide +kernel
theorem dX9_sectionByVolume_9 : decode cX9_sectionByVolume 9 = .ok (.getfield 13, 3) := by decide +kernel
theorem dX9_sectionByVolume_12 : decode cX9_sectionByVolume 12 = .ok (.iconst 0, 1) := by decide +kernel
theorem dX9_sectionByVolume_13 : decode cX9_sectionByVolume 13 = .ok (.iaload, 1) := by decide +kernel
theorem dX9_sectionByVolume_14 : decode cX9_sectionByVolume 14 = .ok (.if_icmp .ge 56, 3) := by decide +kernel
theorem dX9_sectionByVolume_17 : decode cX9_sectionByVolume 17 = .ok (.iconst 0, 1) := by decide +kernel
theorem dX9_sectionByVolume_18 : decode cX9_sectionByVolume 18 = .ok (.istore_n 3, 1) := by decide +kernel
theorem dX9_sectionByVolume_19 : decode cX9_sectionByVolume 19 = .ok (.iconst 0, 1) := by decide +kernel
theorem dX9_sectionByVolume_20 : decode cX9_sectionByVolume 20 = .ok (.istore 4, 2) := by decide +kernel
theorem dX9_sectionByVolume_22 : decode cX9_sectionByVolume 22 = .ok (.iload 4, 2) := by decide +kernel
theorem dX9_sectionByVolume_24 : decode cX9_sectionByVolume 24 = .ok (.aload_n 0, 1) := by decide +kernel
theorem dX9_sectionByVolume_25 : decode cX9_sectionByVolume 25 = .ok (.getfield 13, 3) := by decide +kernel
theorem dX9_sectionByVolume_28 : decode cX9_sectionByVolume 28 = .ok (.iconst 0, 1) := by decide +kernel
theorem dX9_sectionByVolume_29 : decode cX9_sectionByVolume 29 = .ok (.iaload, 1) := by decide +kernel
theorem dX9_sectionByVolume_30 : decode cX9_sectionByVolume 30 = .ok (.if_icmp .ge 27, 3) := by decide +kernel
theorem dX9_sectionByVolume_33 : decode cX9_sectionByVolume 33 = .ok (.iload_n 3, 1) := by decide +kernel
theorem dX9_sectionByVolume_34 : decode cX9_sectionByVolume 34 = .ok (.aload_n 0, 1) := by decide +kernel
theorem dX9_sectionByVolume_35 : decode cX9_sectionByVolume 35 = .ok (.iload 4, 2) := by decide +kernel
theorem dX9_sectionByVolume_37 : decode cX9_sectionByVolume 37 = .ok (.iload_n 2, 1) := by decide +kernel
theorem dX9_sectionByVolume_38 : decode cX9_sectionByVolume 38 = .ok (.invokevirtual 208, 3) := by decide +kernel
theorem dX9_sectionByVolume_41 : decode cX9_sectionByVolume 41 = .ok (.ifCond .eq 7, 3) := by decide +kernel
theorem dX9_sectionByVolume_44 : decode cX9_sectionByVolume 44 = .ok (.iconst 1, 1) := by decide +kernel
theorem dX9_sectionByVolume_45 : decode cX9_sectionByVolume 45 = .ok (.goto 4, 3) := by decide +kernel
theorem dX9_sectionByVolume_48 : decode cX9_sectionByVolume 48 = .ok (.iconst 0, 1) := by decide +kernel
theorem dX9_sectionByVolume_49 : decode cX9_sectionByVolume 49 = .ok (.iadd, 1) := by decide +kernel
theorem dX9_sectionByVolume_50 : decode cX9_sectionByVolume 50 = .ok (.istore_n 3, 1) := by decide +kernel
theorem dX9_sectionByVolume_51 : decode cX9_sectionByVolume 51 = .ok (.iinc 4 1, 3) := by decide +kernel
theorem dX9_sectionByVolume_54 : decode cX9_sectionByVolume 54 = .ok (.goto (-32), 3) := by decide +kernel
theorem dX9_sectionByVolume_57 : decode cX9_sectionByVolume 57 = .ok (.iload_n 3, 1) := by decide +kernel
theorem dX9_sectionByVolume_58 : decode cX9_sectionByVolume 58 = .ok (.iload_n 1, 1) := by decide +kernel
theorem dX9_sectionByVolume_59 : decode cX9_sectionByVolume 59 = .ok (.if_icmp .ne 5, 3) := by decide +kernel
theorem dX9_sectionByVolume_62 : decode cX9_sectionByVolume 62 = .ok (.iload_n 2, 1) := by decide +kernel
theorem dX9_sectionByVolume_63 : decode cX9_sectionByVolume 63 = .ok (.ireturn, 1) := by decide +kernel
theorem dX9_sectionByVolume_64 : decode cX9_sectionByVolume 64 = .ok (.iinc 2 1, 3) := by decide +kernel
theorem dX9_sectionByVolume_67 : decode cX9_sectionByVolume 67 = .ok (.goto (-60), 3) := by decide +kernel
theorem dX9_sectionByVolume_70 : decode cX9_sectionByVolume 70 = .ok (.aload_n 0, 1) := by decide +kernel
theorem dX9_sectionByVolume_71 : decode cX9_sectionByVolume 71 = .ok (.iconst 1, 1) := by decide +kernel
theorem dX9_sectionByVolume_72 : decode cX9_sectionByVolume 72 = .ok (.invokevirtual 87, 3) := by decide +kernel
theorem dX9_sectionByVolume_75 : decode cX9_sectionByVolume 75 = .ok (.ireturn, 1) := by decide +kernel
theorem dX9_soundsAll_0 : decode cX9_soundsAll 0 = .ok (.aload_n 0, 1) := by decide +kernel
theorem dX9_soundsAll_1 : decode cX9_soundsAll 1 = .ok (.iconst 0, 1) := by decide +kernel
theorem dX9_soundsAll_2 : decode cX9_soundsAll 2 = .ok (.iload_n 1, 1) := by decide +kernel
theorem dX9_soundsAll_3 : decode cX9_soundsAll 3 = .ok (.invokevirtual 202, 3) := by decide +kernel
theorem dX9_soundsAll_6 : decode cX9_soundsAll 6 = .ok (.aload_n 0, 1) := by decide +kernel
theorem dX9_soundsAll_7 : decode cX9_soundsAll 7 = .ok (.iconst 1, 1) := by decide +kernel
theorem dX9_soundsAll_8 : decode cX9_soundsAll 8 = .ok (.iload_n 1, 1) := by decide +kernel
theorem dX9_soundsAll_9 : decode cX9_soundsAll 9 = .ok (.invokevirtual 202, 3) := by decide +kernel
theorem dX9_soundsAll_12 : decode cX9_soundsAll 12 = .ok (.iadd, 1) := by decide +kernel
theorem dX9_soundsAll_13 : decode cX9_soundsAll 13 = .ok (.aload_n 0, 1) := by decide +kernel
theorem dX9_soundsAll_14 : decode cX9_soundsAll 14 = .ok (.iconst 2, 1) := by decide +kernel
theorem dX9_soundsAll_15 : decode cX9_soundsAll 15 = .ok (.iload_n 1, 1) := by decide +kernel
theorem dX9_soundsAll_16 : decode cX9_soundsAll 16 = .ok (.invokevirtual 202, 3) := by decide +kernel
theorem dX9_soundsAll_19 : decode cX9_soundsAll 19 = .ok (.iadd, 1) := by decide +kernel
theorem dX9_soundsAll_20 : decode cX9_soundsAll 20 = .ok (.ireturn, 1) := by decide +kernel
theorem dX9_noteBySounds_0 : decode cX9_noteBySounds 0 = .ok (.aload_n 0, 1) := by decide +kernel
theorem dX9_noteBySounds_1 : decode cX9_noteBySounds 1 = .ok (.iconst 0, 1) := by decide +kernel
theorem dX9_noteBySounds_2 : decode cX9_noteBySounds 2 = .ok (.putfield 1, 3) := by decide +kernel
theorem dX9_noteBySounds_5 : decode cX9_noteBySounds 5 = .ok (.iconst 1, 1) := by decide +kernel
theorem dX9_noteBySounds_6 : decode cX9_noteBySounds 6 = .ok (.istore_n 2, 1) := by decide +kernel
theorem dX9_noteBySounds_7 : decode cX9_noteBySounds 7 = .ok (.iload_n 2, 1) := by decide +kernel
theorem dX9_noteBySounds_8 : decode cX9_noteBySounds 8 = .ok (.bipush 9, 2) := by decide +kernel
theorem dX9_noteBySounds_10 : decode cX9_noteBySounds 10 = .ok (.if_icmp .gt 72, 3) := by decide +kernel
theorem dX9_noteBySounds_13 : decode cX9_noteBySounds 13 = .ok (.iconst 0, 1) := by decide +kernel
theorem dX9_noteBySounds_14 : decode cX9_noteBySounds 14 = .ok (.istore_n 3, 1) := by decide +kernel
theorem dX9_noteBySounds_15 : decode cX9_noteBySounds 15 = .ok (.iconst 1, 1) := by decide +kernel
theorem dX9_noteBySounds_16 : decode cX9_noteBySounds 16 = .ok (.istore 4, 2) := by decide +kernel
theorem dX9_noteBySounds_18 : decode cX9_noteBySounds 18 = .ok (.iload 4, 2) := by decide +kernel
theorem dX9_noteBySounds_20 : decode cX9_noteBySounds 20 = .ok (.bipush 9, 2) := by decide +kernel
theorem dX9_noteBySounds_22 : decode cX9_noteBySounds 22 = .ok (.if_icmp .gt 47, 3) := by decide +kernel
theorem dX9_noteBySounds_25 : decode cX9_noteBySounds 25 = .ok (.aload_n 0, 1) := by decide +kernel
theorem dX9_noteBySounds_26 : decode cX9_noteBySounds 26 = .ok (.iload 4, 2) := by decide +kernel
theorem dX9_noteBySounds_28 : decode cX9_noteBySounds 28 = .ok (.invokevirtual 211, 3) := by decide +kernel
theorem dX9_noteBySounds_31 : decode cX9_noteBySounds 31 = .ok (.aload_n 0, 1) := by decide +kernel
theorem dX9_noteBySounds_32 : decode cX9_noteBySounds 32 = .ok (.iload_n 2, 1) := by decide +kernel
theorem dX9_noteBySounds_33 : decode cX9_noteBySounds 33 = .ok (.invokevirtual 211, 3) := by decide +kernel
theorem dX9_noteBySounds_36 : decode cX9_noteBySounds 36 = .ok (.isub, 1) := by decide +kernel
theorem dX9_noteBySounds_37 : decode cX9_noteBySounds 37 = .ok (.istore 5, 2) := by decide +kernel
theorem dX9_noteBySounds_39 : decode cX9_noteBySounds 39 = .ok (.iload_n 3, 1) := by decide +kernel
theorem dX9_noteBySounds_40 : decode cX9_noteBySounds 40 = .ok (.iload 5, 2) := by decide +kernel
theorem dX9_noteBySounds_42 : decode cX9_noteBySounds 42 = .ok (.ifCond .gt 14, 3) := by decide +kernel
theorem dX9_noteBySounds_45 : decode cX9_noteBySounds 45 = .ok (.iload 5, 2) := by decide +kernel
theorem dX9_noteBySounds_47 : decode cX9_noteBySounds 47 = .ok (.ifCond .ne 13, 3) := by decide +kernel
theorem dX9_noteBySounds_50 : decode cX9_noteBySounds 50 = .ok (.iload 4, 2) := by decide +kernel
theorem dX9_noteBySounds_52 : decode cX9_noteBySounds 52 = .ok (.iload_n 2, 1) := by decide +kernel
theorem dX9_noteBySounds_53 : decode cX9_noteBySounds 53 = .ok (.if_icmp .le 7, 3) := by decide +kernel
theorem dX9_noteBySounds_56 : decode cX9_noteBySounds 56 = .ok (.iconst 1, 1) := by decide +kernel
theorem dX9_noteBySounds_57 : decode cX9_noteBySounds 57 = .ok (.goto 4, 3) := by decide +kernel
theorem dX9_noteBySounds_60 : decode cX9_noteBySounds 60 = .ok (.iconst 0, 1) := by decide +kernel
theorem dX9_noteBySounds_61 : decode cX9_noteBySounds 61 = .ok (.iadd, 1) := by decide +kernel
theorem dX9_noteBySounds_62 : decode cX9_noteBySounds 62 = .ok (.istore_n 3, 1) := by decide +kernel
theorem dX9_noteBySounds_63 : decode cX9_noteBySounds 63 = .ok (.iinc 4 1, 3) := by decide +kernel
theorem dX9_noteBySounds_66 : decode cX9_noteBySounds 66 = .ok (.goto (-48), 3) := by decide +kernel
theorem dX9_noteBySounds_69 : decode cX9_noteBySounds 69 = .ok (.iload_n 3, 1) := by decide +kernel
theorem dX9_noteBySounds_70 : decode cX9_noteBySounds 70 = .ok (.iload_n 1, 1) := by decide +kernel
theorem dX9_noteBySounds_71 : decode cX9_noteBySounds 71 = .ok (.if_icmp .ne 5, 3) := by decide +kernel
theorem dX9_noteBySounds_74 : decode cX9_noteBySounds 74 = .ok (.iload_n 2, 1) := by decide +kernel
theorem dX9_noteBySounds_75 : decode cX9_noteBySounds 75 = .ok (.ireturn, 1) := by decide +kernel
theorem dX9_noteBySounds_76 : decode cX9_noteBySounds 76 = .ok (.iinc 2 1, 3) := by decide +kernel
theorem dX9_noteBySounds_79 : decode cX9_noteBySounds 79 = .ok (.goto (-72), 3) := by decide +kernel
theorem dX9_noteBySounds_82 : decode cX9_noteBySounds 82 = .ok (.aload_n 0, 1) := by decide +kernel
theorem dX9_noteBySounds_83 : decode cX9_noteBySounds 83 = .ok (.iconst 1, 1) := by decide +kernel
theorem dX9_noteBySounds_84 : decode cX9_noteBySounds 84 = .ok (.invokevirtual 87, 3) := by decide +kernel
theorem dX9_noteBySounds_87 : decode cX9_noteBySounds 87 = .ok (.ireturn, 1) := by decide +kernel
theorem dX9_meanTotal_0 : decode cX9_meanTotal 0 = .ok (.aload_n 0, 1) := by decide +kernel
theorem dX9_meanTotal_1 : decode cX9_meanTotal 1 = .ok (.iconst 0, 1) := by decide +kernel
theorem dX9_meanTotal_2 : decode cX9_meanTotal 2 = .ok (.putfield 1, 3) := by decide +kernel
theorem dX9_meanTotal_5 : decode cX9_meanTotal 5 = .ok (.aload_n 0, 1) := by decide +kernel
theorem dX9_meanTotal_6 : decode cX9_meanTotal 6 = .ok (.getfield 13, 3) := by decide +kernel
theorem dX9_meanTotal_9 : decode cX9_meanTotal 9 = .ok (.iconst 1, 1) := by decide +kernel
theorem dX9_meanTotal_10 : decode cX9_meanTotal 10 = .ok (.iaload, 1) := by decide +kernel
theorem dX9_meanTotal_11 : decode cX9_meanTotal 11 = .ok (.ifCond .ne 12, 3) := by decide +kernel
theorem dX9_meanTotal_14 : decode cX9_meanTotal 14 = .ok (.aload_n 0, 1) := by decide +kernel
theorem dX9_meanTotal_15 : decode cX9_meanTotal 15 = .ok (.iconst 1, 1) := by decide +kernel
theorem dX9_meanTotal_16 : decode cX9_meanTotal 16 = .ok (.invokevirtual 87, 3) := by decide +kernel
theorem dX9_meanTotal_19 : decode cX9_meanTotal 19 = .ok (.i2d, 1) := by decide +kernel
theorem dX9_meanTotal_20 : decode cX9_meanTotal 20 = .ok (.goto 18, 3) := by decide +kernel
theorem dX9_meanTotal_23 : decode cX9_meanTotal 23 = .ok (.aload_n 0, 1) := by decide +kernel
theorem dX9_meanTotal_24 : decode cX9_meanTotal 24 = .ok (.getfield 13, 3) := by decide +kernel
theorem dX9_meanTotal_27 : decode cX9_meanTotal 27 = .ok (.iconst 5, 1) := by decide +kernel
theorem dX9_meanTotal_28 : decode cX9_meanTotal 28 = .ok (.iaload, 1) := by decide +kernel
theorem dX9_meanTotal_29 : decode cX9_meanTotal 29 = .ok (.i2d, 1) := by decide +kernel
theorem dX9_meanTotal_30 : decode cX9_meanTotal 30 = .ok (.aload_n 0, 1) := by decide +kernel
theorem dX9_meanTotal_31 : decode cX9_meanTotal 31 = .ok (.getfield 13, 3) := by decide +kernel
theorem dX9_meanTotal_34 : decode cX9_meanTotal 34 = .ok (.iconst 1, 1) := by decide +kernel
theorem dX9_meanTotal_35 : decode cX9_meanTotal 35 = .ok (.iaload, 1) := by decide +kernel
theorem dX9_meanTotal_36 : decode cX9_meanTotal 36 = .ok (.i2d, 1) := by decide +kernel
theorem dX9_meanTotal_37 : decode cX9_meanTotal 37 = .ok (.ddiv, 1) := by decide +kernel
theorem dX9_meanTotal_38 : decode cX9_meanTotal 38 = .ok (.dreturn, 1) := by decide +kernel
theorem dX9_maskedShare_0 : decode cX9_maskedShare 0 = .ok (.aload_n 0, 1) := by decide +kernel
theorem dX9_maskedShare_1 : decode cX9_maskedShare 1 = .ok (.iconst 0, 1) := by decide +kernel
theorem dX9_maskedShare_2 : decode cX9_maskedShare 2 = .ok (.putfield 1, 3) := by decide +kernel
theorem dX9_maskedShare_5 : decode cX9_maskedShare 5 = .ok (.aload_n 0, 1) := by decide +kernel
theorem dX9_maskedShare_6 : decode cX9_maskedShare 6 = .ok (.iload_n 1, 1) := by decide +kernel
theorem dX9_maskedShare_7 : decode cX9_maskedShare 7 = .ok (.invokevirtual 69, 3) := by decide +kernel
theorem dX9_maskedShare_10 : decode cX9_maskedShare 10 = .ok (.ifCond .ne 10, 3) := by decide +kernel
theorem dX9_maskedShare_13 : decode cX9_maskedShare 13 = .ok (.aload_n 0, 1) := by decide +kernel
theorem dX9_maskedShare_14 : decode cX9_maskedShare 14 = .ok (.iconst 1, 1) := by decide +kernel
theorem dX9_maskedShare_15 : decode cX9_maskedShare 15 = .ok (.invokevirtual 87, 3) := by decide +kernel
theorem dX9_maskedShare_18 : decode cX9_maskedShare 18 = .ok (.i2f, 1) := by decide +kernel
theorem dX9_maskedShare_19 : decode cX9_maskedShare 19 = .ok (.freturn, 1) := by decide +kernel
theorem dX9_maskedShare_20 : decode cX9_maskedShare 20 = .ok (.iconst 0, 1) := by decide +kernel
theorem dX9_maskedShare_21 : decode cX9_maskedShare 21 = .ok (.istore_n 2, 1) := by decide +kernel
theorem dX9_maskedShare_22 : decode cX9_maskedShare 22 = .ok (.iconst 0, 1) := by decide +kernel
theorem dX9_maskedShare_23 : decode cX9_maskedShare 23 = .ok (.istore_n 3, 1) := by decide +kernel
theorem dX9_maskedShare_24 : decode cX9_maskedShare 24 = .ok (.iload_n 3, 1) := by decide +kernel
theorem dX9_maskedShare_25 : decode cX9_maskedShare 25 = .ok (.aload_n 0, 1) := by decide +kernel
theorem dX9_maskedShare_26 : decode cX9_maskedShare 26 = .ok (.iload_n 1, 1) := by decide +kernel
theorem dX9_maskedShare_27 : decode cX9_maskedShare 27 = .ok (.iconst 2, 1) := by decide +kernel
theorem dX9_maskedShare_28 : decode cX9_maskedShare 28 = .ok (.invokevirtual 61, 3) := by decide +kernel
theorem dX9_maskedShare_31 : decode cX9_maskedShare 31 = .ok (.if_icmp .ge 26, 3) := by decide +kernel
theorem dX9_maskedShare_34 : decode cX9_maskedShare 34 = .ok (.iload_n 2, 1) := by decide +kernel
theorem dX9_maskedShare_35 : decode cX9_maskedShare 35 = .ok (.aload_n 0, 1) := by decide +kernel
theorem dX9_maskedShare_36 : decode cX9_maskedShare 36 = .ok (.iload_n 1, 1) := by decide +kernel
theorem dX9_maskedShare_37 : decode cX9_maskedShare 37 = .ok (.iload_n 3, 1) := by decide +kernel
theorem dX9_maskedShare_38 : decode cX9_maskedShare 38 = .ok (.invokevirtual 113, 3) := by decide +kernel
theorem dX9_maskedShare_41 : decode cX9_maskedShare 41 = .ok (.ifCond .eq 7, 3) := by decide +kernel
theorem dX9_maskedShare_44 : decode cX9_maskedShare 44 = .ok (.iconst 1, 1) := by decide +kernel
theorem dX9_maskedShare_45 : decode cX9_maskedShare 45 = .ok (.goto 4, 3) := by decide +kernel
theorem dX9_maskedShare_48 : decode cX9_maskedShare 48 = .ok (.iconst 0, 1) := by decide +kernel
theorem dX9_maskedShare_49 : decode cX9_maskedShare 49 = .ok (.iadd, 1) := by decide +kernel
theorem dX9_maskedShare_50 : decode cX9_maskedShare 50 = .ok (.istore_n 2, 1) := by decide +kernel
theorem dX9_maskedShare_51 : decode cX9_maskedShare 51 = .ok (.iinc 3 1, 3) := by decide +kernel
theorem dX9_maskedShare_54 : decode cX9_maskedShare 54 = .ok (.goto (-30), 3) := by decide +kernel
theorem dX9_maskedShare_57 : decode cX9_maskedShare 57 = .ok (.iload_n 2, 1) := by decide +kernel
theorem dX9_maskedShare_58 : decode cX9_maskedShare 58 = .ok (.i2f, 1) := by decide +kernel
theorem dX9_maskedShare_59 : decode cX9_maskedShare 59 = .ok (.aload_n 0, 1) := by decide +kernel
theorem dX9_maskedShare_60 : decode cX9_maskedShare 60 = .ok (.iload_n 1, 1) := by decide +kernel
theorem dX9_maskedShare_61 : decode cX9_maskedShare 61 = .ok (.iconst 2, 1) := by decide +kernel
theorem dX9_maskedShare_62 : decode cX9_maskedShare 62 = .ok (.invokevirtual 61, 3) := by decide +kernel
theorem dX9_maskedShare_65 : decode cX9_maskedShare 65 = .ok (.i2f, 1) := by decide +kernel
theorem dX9_maskedShare_66 : decode cX9_maskedShare 66 = .ok (.fdiv, 1) := by decide +kernel
theorem dX9_maskedShare_67 : decode cX9_maskedShare 67 = .ok (.freturn, 1) := by decide +kernel
theorem dX9_isConsistent_0 : decode cX9_isConsistent 0 = .ok (.aload_n 0, 1) := by decide +kernel
theorem dX9_isConsistent_1 : decode cX9_isConsistent 1 = .ok (.iconst 0, 1) := by decide +kernel
theorem dX9_isConsistent_2 : decode cX9_isConsistent 2 = .ok (.putfield 1, 3) := by decide +kernel
theorem dX9_isConsistent_5 : decode cX9_isConsistent 5 = .ok (.aload_n 0, 1) := by decide +kernel
theorem dX9_isConsistent_6 : decode cX9_isConsistent 6 = .ok (.getfield 13, 3) := by decide +kernel
theorem dX9_isConsistent_9 : decode cX9_isConsistent 9 = .ok (.iconst 5, 1) := by decide +kernel
theorem dX9_isConsistent_10 : decode cX9_isConsistent 10 = .ok (.iaload, 1) := by decide +kernel
theorem dX9_isConsistent_11 : decode cX9_isConsistent 11 = .ok (.aload_n 0, 1) := by decide +kernel
theorem dX9_isConsistent_12 : decode cX9_isConsistent 12 = .ok (.invokevirtual 205, 3) := by decide +kernel
theorem dX9_isConsistent_15 : decode cX9_isConsistent 15 = .ok (.if_icmp .ne 7, 3) := by decide +kernel
theorem dX9_isConsistent_18 : decode cX9_isConsistent 18 = .ok (.iconst 1, 1) := by decide +kernel
theorem dX9_isConsistent_19 : decode cX9_isConsistent 19 = .ok (.goto 4, 3) := by decide +kernel
theorem dX9_isConsistent_22 : decode cX9_isConsistent 22 = .ok (.iconst 0, 1) := by decide +kernel
theorem dX9_isConsistent_23 : decode cX9_isConsistent 23 = .ok (.ireturn, 1) := by decide +kernel
theorem dX9_writes_0 : decode cX9_writes 0 = .ok (.aload_n 0, 1) := by decide +kernel
theorem dX9_writes_1 : decode cX9_writes 1 = .ok (.getfield 29, 3) := by decide +kernel
theorem dX9_writes_4 : decode cX9_writes 4 = .ok (.aload_n 0, 1) := by decide +kernel
theorem dX9_writes_5 : decode cX9_writes 5 = .ok (.getfield 214, 3) := by decide +kernel
theorem dX9_writes_8 : decode cX9_writes 8 = .ok (.iload_n 1, 1) := by decide +kernel
theorem dX9_writes_9 : decode cX9_writes 9 = .ok (.i2c, 1) := by decide +kernel
theorem dX9_writes_10 : decode cX9_writes 10 = .ok (.castore, 1) := by decide +kernel
theorem dX9_writes_11 : decode cX9_writes 11 = .ok (.aload_n 0, 1) := by decide +kernel
theorem dX9_writes_12 : decode cX9_writes 12 = .ok (.dup, 1) := by decide +kernel
theorem dX9_writes_13 : decode cX9_writes 13 = .ok (.getfield 214, 3) := by decide +kernel
theorem dX9_writes_16 : decode cX9_writes 16 = .ok (.iconst 1, 1) := by decide +kernel
theorem dX9_writes_17 : decode cX9_writes 17 = .ok (.iadd, 1) := by decide +kernel
theorem dX9_writes_18 : decode cX9_writes 18 = .ok (.putfield 214, 3) := by decide +kernel
theorem dX9_writes_21 : decode cX9_writes 21 = .ok (.return_, 1) := by decide +kernel
theorem dX9_renderScore_0 : decode cX9_renderScore 0 = .ok (.aload_n 0, 1) := by decide +kernel
theorem dX9_renderScore_1 : decode cX9_renderScore 1 = .ok (.iconst 0, 1) := by decide +kernel
theorem dX9_renderScore_2 : decode cX9_renderScore 2 = .ok (.putfield 1, 3) := by decide +kernel
theorem dX9_renderScore_5 : decode cX9_renderScore 5 = .ok (.aload_n 0, 1) := by decide +kernel
theorem dX9_renderScore_6 : decode cX9_renderScore 6 = .ok (.iload_n 1, 1) := by decide +kernel
theorem dX9_renderScore_7 : decode cX9_renderScore 7 = .ok (.invokevirtual 69, 3) := by decide +kernel
theorem dX9_renderScore_10 : decode cX9_renderScore 10 = .ok (.ifCond .ne 9, 3) := by decide +kernel
theorem dX9_renderScore_13 : decode cX9_renderScore 13 = .ok (.aload_n 0, 1) := by decide +kernel
theorem dX9_renderScore_14 : decode cX9_renderScore 14 = .ok (.iconst 1, 1) := by decide +kernel
theorem dX9_renderScore_15 : decode cX9_renderScore 15 = .ok (.invokevirtual 87, 3) := by decide +kernel
theorem dX9_renderScore_18 : decode cX9_renderScore 18 = .ok (.ireturn, 1) := by decide +kernel
theorem dX9_renderScore_19 : decode cX9_renderScore 19 = .ok (.aload_n 0, 1) := by decide +kernel
theorem dX9_renderScore_20 : decode cX9_renderScore 20 = .ok (.iconst 0, 1) := by decide +kernel
theorem dX9_renderScore_21 : decode cX9_renderScore 21 = .ok (.putfield 214, 3) := by decide +kernel
theorem dX9_renderScore_24 : decode cX9_renderScore 24 = .ok (.aload_n 0, 1) := by decide +kernel
theorem dX9_renderScore_25 : decode cX9_renderScore 25 = .ok (.aload_n 0, 1) := by decide +kernel
theorem dX9_renderScore_26 : decode cX9_renderScore 26 = .ok (.iload_n 1, 1) := by decide +kernel
theorem dX9_renderScore_27 : decode cX9_renderScore 27 = .ok (.iconst 0, 1) := by decide +kernel
theorem dX9_renderScore_28 : decode cX9_renderScore 28 = .ok (.invokevirtual 61, 3) := by decide +kernel
theorem dX9_renderScore_31 : decode cX9_renderScore 31 = .ok (.invokestatic 183, 3) := by decide +kernel
theorem dX9_renderScore_34 : decode cX9_renderScore 34 = .ok (.invokevirtual 217, 3) := by decide +kernel
theorem dX9_renderScore_37 : decode cX9_renderScore 37 = .ok (.aload_n 0, 1) := by decide +kernel
theorem dX9_renderScore_38 : decode cX9_renderScore 38 = .ok (.bipush 58, 2) := by decide +kernel
theorem dX9_renderScore_40 : decode cX9_renderScore 40 = .ok (.invokevirtual 217, 3) := by decide +kernel
theorem dX9_renderScore_43 : decode cX9_renderScore 43 = .ok (.iconst 0, 1) := by decide +kernel
theorem dX9_renderScore_44 : decode cX9_renderScore 44 = .ok (.istore_n 2, 1) := by decide +kernel
theorem dX9_renderScore_45 : decode cX9_renderScore 45 = .ok (.iload_n 2, 1) := by decide +kernel
theorem dX9_renderScore_46 : decode cX9_renderScore 46 = .ok (.aload_n 0, 1) := by decide +kernel
theorem dX9_renderScore_47 : decode cX9_renderScore 47 = .ok (.iload_n 1, 1) := by decide +kernel
theorem dX9_renderScore_48 : decode cX9_renderScore 48 = .ok (.iconst 1, 1) := by decide +kernel
theorem dX9_renderScore_49 : decode cX9_renderScore 49 = .ok (.invokevirtual 61, 3) := by decide +kernel
theorem dX9_renderScore_52 : decode cX9_renderScore 52 = .ok (.if_icmp .ge 51, 3) := by decide +kernel
theorem dX9_renderScore_55 : decode cX9_renderScore 55 = .ok (.iload_n 2, 1) := by decide +kernel
theorem dX9_renderScore_56 : decode cX9_renderScore 56 = .ok (.ifCond .le 9, 3) := by decide +kernel
theorem dX9_renderScore_59 : decode cX9_renderScore 59 = .ok (.aload_n 0, 1) := by decide +kernel
theorem dX9_renderScore_60 : decode cX9_renderScore 60 = .ok (.bipush 47, 2) := by decide +kernel
theorem dX9_renderScore_62 : decode cX9_renderScore 62 = .ok (.invokevirtual 217, 3) := by decide +kernel
theorem dX9_renderScore_65 : decode cX9_renderScore 65 = .ok (.iconst 0, 1) := by decide +kernel
theorem dX9_renderScore_66 : decode cX9_renderScore 66 = .ok (.istore_n 3, 1) := by decide +kernel
theorem dX9_renderScore_67 : decode cX9_renderScore 67 = .ok (.iload_n 3, 1) := by decide +kernel
theorem dX9_renderScore_68 : decode cX9_renderScore 68 = .ok (.aload_n 0, 1) := by decide +kernel
theorem dX9_renderScore_69 : decode cX9_renderScore 69 = .ok (.iload_n 1, 1) := by decide +kernel
theorem dX9_renderScore_70 : decode cX9_renderScore 70 = .ok (.iconst 2, 1) := by decide +kernel
theorem dX9_renderScore_71 : decode cX9_renderScore 71 = .ok (.invokevirtual 61, 3) := by decide +kernel
theorem dX9_renderScore_74 : decode cX9_renderScore 74 = .ok (.if_icmp .ge 23, 3) := by decide +kernel
theorem dX9_renderScore_77 : decode cX9_renderScore 77 = .ok (.aload_n 0, 1) := by decide +kernel
theorem dX9_renderScore_78 : decode cX9_renderScore 78 = .ok (.bipush 48, 2) := by decide +kernel
theorem dX9_renderScore_80 : decode cX9_renderScore 80 = .ok (.aload_n 0, 1) := by decide +kernel
theorem dX9_renderScore_81 : decode cX9_renderScore 81 = .ok (.iload_n 1, 1) := by decide +kernel
theorem dX9_renderScore_82 : decode cX9_renderScore 82 = .ok (.iload_n 2, 1) := by decide +kernel
theorem dX9_renderScore_83 : decode cX9_renderScore 83 = .ok (.iload_n 3, 1) := by decide +kernel
theorem dX9_renderScore_84 : decode cX9_renderScore 84 = .ok (.invokevirtual 73, 3) := by decide +kernel
theorem dX9_renderScore_87 : decode cX9_renderScore 87 = .ok (.iadd, 1) := by decide +kernel
theorem dX9_renderScore_88 : decode cX9_renderScore 88 = .ok (.invokevirtual 217, 3) := by decide +kernel
theorem dX9_renderScore_91 : decode cX9_renderScore 91 = .ok (.iinc 3 1, 3) := by decide +kernel
theorem dX9_renderScore_94 : decode cX9_renderScore 94 = .ok (.goto (-27), 3) := by decide +kernel
theorem dX9_renderScore_97 : decode cX9_renderScore 97 = .ok (.iinc 2 1, 3) := by decide +kernel
theorem dX9_renderScore_100 : decode cX9_renderScore 100 = .ok (.goto (-55), 3) := by decide +kernel
theorem dX9_renderScore_103 : decode cX9_renderScore 103 = .ok (.aload_n 0, 1) := by decide +kernel
theorem dX9_renderScore_104 : decode cX9_renderScore 104 = .ok (.getfield 214, 3) := by decide +kernel
theorem dX9_renderScore_107 : decode cX9_renderScore 107 = .ok (.ireturn, 1) := by decide +kernel
theorem dX9_renderMask_0 : decode cX9_renderMask 0 = .ok (.aload_n 0, 1) := by decide +kernel
theorem dX9_renderMask_1 : decode cX9_renderMask 1 = .ok (.iconst 0, 1) := by decide +kernel
theorem dX9_renderMask_2 : decode cX9_renderMask 2 = .ok (.putfield 1, 3) := by decide +kernel
theorem dX9_renderMask_5 : decode cX9_renderMask 5 = .ok (.aload_n 0, 1) := by decide +kernel
theorem dX9_renderMask_6 : decode cX9_renderMask 6 = .ok (.iload_n 1, 1) := by decide +kernel
theorem dX9_renderMask_7 : decode cX9_renderMask 7 = .ok (.invokevirtual 69, 3) := by decide +kernel
theorem dX9_renderMask_10 : decode cX9_renderMask 10 = .ok (.ifCond .ne 9, 3) := by decide +kernel
theorem dX9_renderMask_13 : decode cX9_renderMask 13 = .ok (.aload_n 0, 1) := by decide +kernel
theorem dX9_renderMask_14 : decode cX9_renderMask 14 = .ok (.iconst 1, 1) := by decide +kernel
theorem dX9_renderMask_15 : decode cX9_renderMask 15 = .ok (.invokevirtual 87, 3) := by decide +kernel
theorem dX9_renderMask_18 : decode cX9_renderMask 18 = .ok (.ireturn, 1) := by decide +kernel
theorem dX9_renderMask_19 : decode cX9_renderMask 19 = .ok (.aload_n 0, 1) := by decide +kernel
theorem dX9_renderMask_20 : decode cX9_renderMask 20 = .ok (.iconst 0, 1) := by decide +kernel
theorem dX9_renderMask_21 : decode cX9_renderMask 21 = .ok (.putfield 214, 3) := by decide +kernel
theorem dX9_renderMask_24 : decode cX9_renderMask 24 = .ok (.iconst 0, 1) := by decide +kernel
theorem dX9_renderMask_25 : decode cX9_renderMask 25 = .ok (.istore_n 2, 1) := by decide +kernel
theorem dX9_renderMask_26 : decode cX9_renderMask 26 = .ok (.iload_n 2, 1) := by decide +kernel
theorem dX9_renderMask_27 : decode cX9_renderMask 27 = .ok (.aload_n 0, 1) := by decide +kernel
theorem dX9_renderMask_28 : decode cX9_renderMask 28 = .ok (.iload_n 1, 1) := by decide +kernel
theorem dX9_renderMask_29 : decode cX9_renderMask 29 = .ok (.iconst 2, 1) := by decide +kernel
theorem dX9_renderMask_30 : decode cX9_renderMask 30 = .ok (.invokevirtual 61, 3) := by decide +kernel
theorem dX9_renderMask_33 : decode cX9_renderMask 33 = .ok (.if_icmp .ge 29, 3) := by decide +kernel
theorem dX9_renderMask_36 : decode cX9_renderMask 36 = .ok (.aload_n 0, 1) := by decide +kernel
theorem dX9_renderMask_37 : decode cX9_renderMask 37 = .ok (.aload_n 0, 1) := by decide +kernel
theorem dX9_renderMask_38 : decode cX9_renderMask 38 = .ok (.iload_n 1, 1) := by decide +kernel
theorem dX9_renderMask_39 : decode cX9_renderMask 39 = .ok (.iload_n 2, 1) := by decide +kernel
theorem dX9_renderMask_40 : decode cX9_renderMask 40 = .ok (.invokevirtual 113, 3) := by decide +kernel
theorem dX9_renderMask_43 : decode cX9_renderMask 43 = .ok (.ifCond .eq 8, 3) := by decide +kernel
theorem dX9_renderMask_46 : decode cX9_renderMask 46 = .ok (.bipush 120, 2) := by decide +kernel
theorem dX9_renderMask_48 : decode cX9_renderMask 48 = .ok (.goto 5, 3) := by decide +kernel
theorem dX9_renderMask_51 : decode cX9_renderMask 51 = .ok (.bipush 46, 2) := by decide +kernel
theorem dX9_renderMask_53 : decode cX9_renderMask 53 = .ok (.invokevirtual 217, 3) := by decide +kernel
theorem dX9_renderMask_56 : decode cX9_renderMask 56 = .ok (.iinc 2 1, 3) := by decide +kernel
theorem dX9_renderMask_59 : decode cX9_renderMask 59 = .ok (.goto (-33), 3) := by decide +kernel
theorem dX9_renderMask_62 : decode cX9_renderMask 62 = .ok (.aload_n 0, 1) := by decide +kernel
theorem dX9_renderMask_63 : decode cX9_renderMask 63 = .ok (.bipush 102, 2) := by decide +kernel
theorem dX9_renderMask_65 : decode cX9_renderMask 65 = .ok (.invokevirtual 217, 3) := by decide +kernel
theorem dX9_renderMask_68 : decode cX9_renderMask 68 = .ok (.aload_n 0, 1) := by decide +kernel
theorem dX9_renderMask_69 : decode cX9_renderMask 69 = .ok (.bipush 48, 2) := by decide +kernel
theorem dX9_renderMask_71 : decode cX9_renderMask 71 = .ok (.aload_n 0, 1) := by decide +kernel
theorem dX9_renderMask_72 : decode cX9_renderMask 72 = .ok (.iload_n 1, 1) := by decide +kernel
theorem dX9_renderMask_73 : decode cX9_renderMask 73 = .ok (.iconst 4, 1) := by decide +kernel
theorem dX9_renderMask_74 : decode cX9_renderMask 74 = .ok (.invokevirtual 61, 3) := by decide +kernel
theorem dX9_renderMask_77 : decode cX9_renderMask 77 = .ok (.iadd, 1) := by decide +kernel
theorem dX9_renderMask_78 : decode cX9_renderMask 78 = .ok (.invokevirtual 217, 3) := by decide +kernel
theorem dX9_renderMask_81 : decode cX9_renderMask 81 = .ok (.aload_n 0, 1) := by decide +kernel
theorem dX9_renderMask_82 : decode cX9_renderMask 82 = .ok (.iload_n 1, 1) := by decide +kernel
theorem dX9_renderMask_83 : decode cX9_renderMask 83 = .ok (.iconst 5, 1) := by decide +kernel
theorem dX9_renderMask_84 : decode cX9_renderMask 84 = .ok (.invokevirtual 61, 3) := by decide +kernel
theorem dX9_renderMask_87 : decode cX9_renderMask 87 = .ok (.ifCond .le 22, 3) := by decide +kernel
theorem dX9_renderMask_90 : decode cX9_renderMask 90 = .ok (.aload_n 0, 1) := by decide +kernel
theorem dX9_renderMask_91 : decode cX9_renderMask 91 = .ok (.bipush 114, 2) := by decide +kernel
theorem dX9_renderMask_93 : decode cX9_renderMask 93 = .ok (.invokevirtual 217, 3) := by decide +kernel
theorem dX9_renderMask_96 : decode cX9_renderMask 96 = .ok (.aload_n 0, 1) := by decide +kernel
theorem dX9_renderMask_97 : decode cX9_renderMask 97 = .ok (.bipush 48, 2) := by decide +kernel
theorem dX9_renderMask_99 : decode cX9_renderMask 99 = .ok (.aload_n 0, 1) := by decide +kernel
theorem dX9_renderMask_100 : decode cX9_renderMask 100 = .ok (.iload_n 1, 1) := by decide +kernel
theorem dX9_renderMask_101 : decode cX9_renderMask 101 = .ok (.iconst 5, 1) := by decide +kernel
theorem dX9_renderMask_102 : decode cX9_renderMask 102 = .ok (.invokevirtual 61, 3) := by decide +kernel
theorem dX9_renderMask_105 : decode cX9_renderMask 105 = .ok (.iadd, 1) := by decide +kernel
theorem dX9_renderMask_106 : decode cX9_renderMask 106 = .ok (.invokevirtual 217, 3) := by decide +kernel
theorem dX9_renderMask_109 : decode cX9_renderMask 109 = .ok (.aload_n 0, 1) := by decide +kernel
theorem dX9_renderMask_110 : decode cX9_renderMask 110 = .ok (.getfield 214, 3) := by decide +kernel
theorem dX9_renderMask_113 : decode cX9_renderMask 113 = .ok (.ireturn, 1) := by decide +kernel
theorem dX9_outputAt_0 : decode cX9_outputAt 0 = .ok (.aload_n 0, 1) := by decide +kernel
theorem dX9_outputAt_1 : decode cX9_outputAt 1 = .ok (.iconst 0, 1) := by decide +kernel
theorem dX9_outputAt_2 : decode cX9_outputAt 2 = .ok (.putfield 1, 3) := by decide +kernel
theorem dX9_outputAt_5 : decode cX9_outputAt 5 = .ok (.iload_n 1, 1) := by decide +kernel
theorem dX9_outputAt_6 : decode cX9_outputAt 6 = .ok (.iconst 0, 1) := by decide +kernel
theorem dX9_outputAt_7 : decode cX9_outputAt 7 = .ok (.aload_n 0, 1) := by decide +kernel
theorem dX9_outputAt_8 : decode cX9_outputAt 8 = .ok (.getfield 214, 3) := by decide +kernel
theorem dX9_outputAt_11 : decode cX9_outputAt 11 = .ok (.iconst 1, 1) := by decide +kernel
theorem dX9_outputAt_12 : decode cX9_outputAt 12 = .ok (.isub, 1) := by decide +kernel
theorem dX9_outputAt_13 : decode cX9_outputAt 13 = .ok (.invokestatic 57, 3) := by decide +kernel
theorem dX9_outputAt_16 : decode cX9_outputAt 16 = .ok (.ifCond .eq 10, 3) := by decide +kernel
theorem dX9_outputAt_19 : decode cX9_outputAt 19 = .ok (.aload_n 0, 1) := by decide +kernel
theorem dX9_outputAt_20 : decode cX9_outputAt 20 = .ok (.getfield 29, 3) := by decide +kernel
theorem dX9_outputAt_23 : decode cX9_outputAt 23 = .ok (.iload_n 1, 1) := by decide +kernel
theorem dX9_outputAt_24 : decode cX9_outputAt 24 = .ok (.caload, 1) := by decide +kernel
theorem dX9_outputAt_25 : decode cX9_outputAt 25 = .ok (.ireturn, 1) := by decide +kernel
theorem dX9_outputAt_26 : decode cX9_outputAt 26 = .ok (.aload_n 0, 1) := by decide +kernel
theorem dX9_outputAt_27 : decode cX9_outputAt 27 = .ok (.iconst 1, 1) := by decide +kernel
theorem dX9_outputAt_28 : decode cX9_outputAt 28 = .ok (.invokevirtual 87, 3) := by decide +kernel
theorem dX9_outputAt_31 : decode cX9_outputAt 31 = .ok (.i2c, 1) := by decide +kernel
theorem dX9_outputAt_32 : decode cX9_outputAt 32 = .ok (.ireturn, 1) := by decide +kernel
theorem dX9_type_0 : decode cX9_type 0 = .ok (.aload_n 0, 1) := by decide +kernel
theorem dX9_type_1 : decode cX9_type 1 = .ok (.iconst 0, 1) := by decide +kernel
theorem dX9_type_2 : decode cX9_type 2 = .ok (.putfield 1, 3) := by decide +kernel
theorem dX9_type_5 : decode cX9_type 5 = .ok (.iload_n 1, 1) := by decide +kernel
theorem dX9_type_6 : decode cX9_type 6 = .ok (.bipush 32, 2) := by decide +kernel
theorem dX9_type_8 : decode cX9_type 8 = .ok (.bipush 126, 2) := by decide +kernel
theorem dX9_type_10 : decode cX9_type 10 = .ok (.invokestatic 57, 3) := by decide +kernel
theorem dX9_type_13 : decode cX9_type 13 = .ok (.ifCond .ne 9, 3) := by decide +kernel
theorem dX9_type_16 : decode cX9_type 16 = .ok (.aload_n 0, 1) := by decide +kernel
theorem dX9_type_17 : decode cX9_type 17 = .ok (.iconst 1, 1) := by decide +kernel
theorem dX9_type_18 : decode cX9_type 18 = .ok (.invokevirtual 87, 3) := by decide +kernel
theorem dX9_type_21 : decode cX9_type 21 = .ok (.ireturn, 1) := by decide +kernel
theorem dX9_type_22 : decode cX9_type 22 = .ok (.aload_n 0, 1) := by decide +kernel
theorem dX9_type_23 : decode cX9_type 23 = .ok (.getfield 220, 3) := by decide +kernel
theorem dX9_type_26 : decode cX9_type 26 = .ok (.bipush 60, 2) := by decide +kernel
theorem dX9_type_28 : decode cX9_type 28 = .ok (.if_icmp .ne 9, 3) := by decide +kernel
theorem dX9_type_31 : decode cX9_type 31 = .ok (.aload_n 0, 1) := by decide +kernel
theorem dX9_type_32 : decode cX9_type 32 = .ok (.iconst 2, 1) := by decide +kernel
theorem dX9_type_33 : decode cX9_type 33 = .ok (.invokevirtual 87, 3) := by decide +kernel
theorem dX9_type_36 : decode cX9_type 36 = .ok (.ireturn, 1) := by decide +kernel
theorem dX9_type_37 : decode cX9_type 37 = .ok (.aload_n 0, 1) := by decide +kernel
theorem dX9_type_38 : decode cX9_type 38 = .ok (.getfield 33, 3) := by decide +kernel
theorem dX9_type_41 : decode cX9_type 41 = .ok (.aload_n 0, 1) := by decide +kernel
theorem dX9_type_42 : decode cX9_type 42 = .ok (.getfield 220, 3) := by decide +kernel
theorem dX9_type_45 : decode cX9_type 45 = .ok (.iload_n 1, 1) := by decide +kernel
theorem dX9_type_46 : decode cX9_type 46 = .ok (.castore, 1) := by decide +kernel
theorem dX9_type_47 : decode cX9_type 47 = .ok (.aload_n 0, 1) := by decide +kernel
theorem dX9_type_48 : decode cX9_type 48 = .ok (.dup, 1) := by decide +kernel
theorem dX9_type_49 : decode cX9_type 49 = .ok (.getfield 220, 3) := by decide +kernel
theorem dX9_type_52 : decode cX9_type 52 = .ok (.iconst 1, 1) := by decide +kernel
theorem dX9_type_53 : decode cX9_type 53 = .ok (.iadd, 1) := by decide +kernel
theorem dX9_type_54 : decode cX9_type 54 = .ok (.putfield 220, 3) := by decide +kernel
theorem dX9_type_57 : decode cX9_type 57 = .ok (.aload_n 0, 1) := by decide +kernel
theorem dX9_type_58 : decode cX9_type 58 = .ok (.getfield 220, 3) := by decide +kernel
theorem dX9_type_61 : decode cX9_type 61 = .ok (.ireturn, 1) := by decide +kernel
theorem dX9_nextChar_0 : decode cX9_nextChar 0 = .ok (.aload_n 0, 1) := by decide +kernel
theorem dX9_nextChar_1 : decode cX9_nextChar 1 = .ok (.getfield 223, 3) := by decide +kernel
theorem dX9_nextChar_4 : decode cX9_nextChar 4 = .ok (.aload_n 0, 1) := by decide +kernel
theorem dX9_nextChar_5 : decode cX9_nextChar 5 = .ok (.getfield 220, 3) := by decide +kernel
theorem dX9_nextChar_8 : decode cX9_nextChar 8 = .ok (.if_icmp .ge 15, 3) := by decide +kernel
theorem dX9_nextChar_11 : decode cX9_nextChar 11 = .ok (.aload_n 0, 1) := by decide +kernel
theorem dX9_nextChar_12 : decode cX9_nextChar 12 = .ok (.getfield 33, 3) := by decide +kernel
theorem dX9_nextChar_15 : decode cX9_nextChar 15 = .ok (.aload_n 0, 1) := by decide +kernel
theorem dX9_nextChar_16 : decode cX9_nextChar 16 = .ok (.getfield 223, 3) := by decide +kernel
theorem dX9_nextChar_19 : decode cX9_nextChar 19 = .ok (.caload, 1) := by decide +kernel
theorem dX9_nextChar_20 : decode cX9_nextChar 20 = .ok (.goto 4, 3) := by decide +kernel
theorem dX9_nextChar_23 : decode cX9_nextChar 23 = .ok (.iconst (-1), 1) := by decide +kernel
theorem dX9_nextChar_24 : decode cX9_nextChar 24 = .ok (.ireturn, 1) := by decide +kernel
theorem dX9_reads_0 : decode cX9_reads 0 = .ok (.aload_n 0, 1) := by decide +kernel
theorem dX9_reads_1 : decode cX9_reads 1 = .ok (.invokevirtual 226, 3) := by decide +kernel
theorem dX9_reads_4 : decode cX9_reads 4 = .ok (.iload_n 1, 1) := by decide +kernel
theorem dX9_reads_5 : decode cX9_reads 5 = .ok (.if_icmp .eq 5, 3) := by decide +kernel
theorem dX9_reads_8 : decode cX9_reads 8 = .ok (.iconst 0, 1) := by decide +kernel
theorem dX9_reads_9 : decode cX9_reads 9 = .ok (.ireturn, 1) := by decide +kernel
theorem dX9_reads_10 : decode cX9_reads 10 = .ok (.aload_n 0, 1) := by decide +kernel
theorem dX9_reads_11 : decode cX9_reads 11 = .ok (.dup, 1) := by decide +kernel
theorem dX9_reads_12 : decode cX9_reads 12 = .ok (.getfield 223, 3) := by decide +kernel
theorem dX9_reads_15 : decode cX9_reads 15 = .ok (.iconst 1, 1) := by decide +kernel
theorem dX9_reads_16 : decode cX9_reads 16 = .ok (.iadd, 1) := by decide +kernel
theorem dX9_reads_17 : decode cX9_reads 17 = .ok (.putfield 223, 3) := by decide +kernel
theorem dX9_reads_20 : decode cX9_reads 20 = .ok (.iconst 1, 1) := by decide +kernel
theorem dX9_reads_21 : decode cX9_reads 21 = .ok (.ireturn, 1) := by decide +kernel
theorem dX9_readsDigit_0 : decode cX9_readsDigit 0 = .ok (.aload_n 0, 1) := by decide +kernel
theorem dX9_readsDigit_1 : decode cX9_readsDigit 1 = .ok (.invokevirtual 226, 3) := by decide +kernel
theorem dX9_readsDigit_4 : decode cX9_readsDigit 4 = .ok (.bipush 48, 2) := by decide +kernel
theorem dX9_readsDigit_6 : decode cX9_readsDigit 6 = .ok (.bipush 57, 2) := by decide +kernel
theorem dX9_readsDigit_8 : decode cX9_readsDigit 8 = .ok (.invokestatic 57, 3) := by decide +kernel
theorem dX9_readsDigit_11 : decode cX9_readsDigit 11 = .ok (.ifCond .ne 5, 3) := by decide +kernel
theorem dX9_readsDigit_14 : decode cX9_readsDigit 14 = .ok (.iconst 0, 1) := by decide +kernel
theorem dX9_readsDigit_15 : decode cX9_readsDigit 15 = .ok (.ireturn, 1) := by decide +kernel
theorem dX9_readsDigit_16 : decode cX9_readsDigit 16 = .ok (.aload_n 0, 1) := by decide +kernel
theorem dX9_readsDigit_17 : decode cX9_readsDigit 17 = .ok (.getfield 42, 3) := by decide +kernel
theorem dX9_readsDigit_20 : decode cX9_readsDigit 20 = .ok (.iload_n 1, 1) := by decide +kernel
theorem dX9_readsDigit_21 : decode cX9_readsDigit 21 = .ok (.aload_n 0, 1) := by decide +kernel
theorem dX9_readsDigit_22 : decode cX9_readsDigit 22 = .ok (.invokevirtual 226, 3) := by decide +kernel
theorem dX9_readsDigit_25 : decode cX9_readsDigit 25 = .ok (.bipush 48, 2) := by decide +kernel
theorem dX9_readsDigit_27 : decode cX9_readsDigit 27 = .ok (.isub, 1) := by decide +kernel
theorem dX9_readsDigit_28 : decode cX9_readsDigit 28 = .ok (.iastore, 1) := by decide +kernel
theorem dX9_readsDigit_29 : decode cX9_readsDigit 29 = .ok (.aload_n 0, 1) := by decide +kernel
theorem dX9_readsDigit_30 : decode cX9_readsDigit 30 = .ok (.dup, 1) := by decide +kernel
theorem dX9_readsDigit_31 : decode cX9_readsDigit 31 = .ok (.getfield 223, 3) := by decide +kernel
theorem dX9_readsDigit_34 : decode cX9_readsDigit 34 = .ok (.iconst 1, 1) := by decide +kernel
theorem dX9_readsDigit_35 : decode cX9_readsDigit 35 = .ok (.iadd, 1) := by decide +kernel
theorem dX9_readsDigit_36 : decode cX9_readsDigit 36 = .ok (.putfield 223, 3) := by decide +kernel
theorem dX9_readsDigit_39 : decode cX9_readsDigit 39 = .ok (.iconst 1, 1) := by decide +kernel
theorem dX9_readsDigit_40 : decode cX9_readsDigit 40 = .ok (.ireturn, 1) := by decide +kernel
theorem dX9_readsNumber_0 : decode cX9_readsNumber 0 = .ok (.aload_n 0, 1) := by decide +kernel
theorem dX9_readsNumber_1 : decode cX9_readsNumber 1 = .ok (.iload_n 1, 1) := by decide +kernel
theorem dX9_readsNumber_2 : decode cX9_readsNumber 2 = .ok (.invokevirtual 229, 3) := by decide +kernel
theorem dX9_readsNumber_5 : decode cX9_readsNumber 5 = .ok (.ifCond .ne 5, 3) := by decide +kernel
theorem dX9_readsNumber_8 : decode cX9_readsNumber 8 = .ok (.iconst 0, 1) := by decide +kernel
theorem dX9_readsNumber_9 : decode cX9_readsNumber 9 = .ok (.ireturn, 1) := by decide +kernel
theorem dX9_readsNumber_10 : decode cX9_readsNumber 10 = .ok (.aload_n 0, 1) := by decide +kernel
theorem dX9_readsNumber_11 : decode cX9_readsNumber 11 = .ok (.invokevirtual 226, 3) := by decide +kernel
theorem dX9_readsNumber_14 : decode cX9_readsNumber 14 = .ok (.bipush 48, 2) := by decide +kernel
theorem dX9_readsNumber_16 : decode cX9_readsNumber 16 = .ok (.bipush 57, 2) := by decide +kernel
theorem dX9_readsNumber_18 : decode cX9_readsNumber 18 = .ok (.invokestatic 57, 3) := by decide +kernel
theorem dX9_readsNumber_21 : decode cX9_readsNumber 21 = .ok (.ifCond .ne 5, 3) := by decide +kernel
theorem dX9_readsNumber_24 : decode cX9_readsNumber 24 = .ok (.iconst 1, 1) := by decide +kernel
theorem dX9_readsNumber_25 : decode cX9_readsNumber 25 = .ok (.ireturn, 1) := by decide +kernel
theorem dX9_readsNumber_26 : decode cX9_readsNumber 26 = .ok (.aload_n 0, 1) := by decide +kernel
theorem dX9_readsNumber_27 : decode cX9_readsNumber 27 = .ok (.getfield 42, 3) := by decide +kernel
theorem dX9_readsNumber_30 : decode cX9_readsNumber 30 = .ok (.iload_n 1, 1) := by decide +kernel
theorem dX9_readsNumber_31 : decode cX9_readsNumber 31 = .ok (.bipush 10, 2) := by decide +kernel
theorem dX9_readsNumber_33 : decode cX9_readsNumber 33 = .ok (.aload_n 0, 1) := by decide +kernel
theorem dX9_readsNumber_34 : decode cX9_readsNumber 34 = .ok (.getfield 42, 3) := by decide +kernel
theorem dX9_readsNumber_37 : decode cX9_readsNumber 37 = .ok (.iload_n 1, 1) := by decide +kernel
theorem dX9_readsNumber_38 : decode cX9_readsNumber 38 = .ok (.iaload, 1) := by decide +kernel
theorem dX9_readsNumber_39 : decode cX9_readsNumber 39 = .ok (.imul, 1) := by decide +kernel
theorem dX9_readsNumber_40 : decode cX9_readsNumber 40 = .ok (.aload_n 0, 1) := by decide +kernel
theorem dX9_readsNumber_41 : decode cX9_readsNumber 41 = .ok (.invokevirtual 226, 3) := by decide +kernel
theorem dX9_readsNumber_44 : decode cX9_readsNumber 44 = .ok (.iadd, 1) := by decide +kernel
theorem dX9_readsNumber_45 : decode cX9_readsNumber 45 = .ok (.bipush 48, 2) := by decide +kernel
theorem dX9_readsNumber_47 : decode cX9_readsNumber 47 = .ok (.isub, 1) := by decide +kernel
theorem dX9_readsNumber_48 : decode cX9_readsNumber 48 = .ok (.iastore, 1) := by decide +kernel
theorem dX9_readsNumber_49 : decode cX9_readsNumber 49 = .ok (.aload_n 0, 1) := by decide +kernel
theorem dX9_readsNumber_50 : decode cX9_readsNumber 50 = .ok (.dup, 1) := by decide +kernel
theorem dX9_readsNumber_51 : decode cX9_readsNumber 51 = .ok (.getfield 223, 3) := by decide +kernel
theorem dX9_readsNumber_54 : decode cX9_readsNumber 54 = .ok (.iconst 1, 1) := by decide +kernel
theorem dX9_readsNumber_55 : decode cX9_readsNumber 55 = .ok (.iadd, 1) := by decide +kernel
theorem dX9_readsNumber_56 : decode cX9_readsNumber 56 = .ok (.putfield 223, 3) := by decide +kernel
theorem dX9_readsNumber_59 : decode cX9_readsNumber 59 = .ok (.iconst 1, 1) := by decide +kernel
theorem dX9_readsNumber_60 : decode cX9_readsNumber 60 = .ok (.ireturn, 1) := by decide +kernel
theorem dX9_readsSign_0 : decode cX9_readsSign 0 = .ok (.aload_n 0, 1) := by decide +kernel
theorem dX9_readsSign_1 : decode cX9_readsSign 1 = .ok (.getfield 42, 3) := by decide +kernel
theorem dX9_readsSign_4 : decode cX9_readsSign 4 = .ok (.iload_n 1, 1) := by decide +kernel
theorem dX9_readsSign_5 : decode cX9_readsSign 5 = .ok (.aload_n 0, 1) := by decide +kernel
theorem dX9_readsSign_6 : decode cX9_readsSign 6 = .ok (.invokevirtual 226, 3) := by decide +kernel
theorem dX9_readsSign_9 : decode cX9_readsSign 9 = .ok (.bipush 43, 2) := by decide +kernel
theorem dX9_readsSign_11 : decode cX9_readsSign 11 = .ok (.if_icmp .ne 7, 3) := by decide +kernel
theorem dX9_readsSign_14 : decode cX9_readsSign 14 = .ok (.iconst 1, 1) := by decide +kernel
theorem dX9_readsSign_15 : decode cX9_readsSign 15 = .ok (.goto 4, 3) := by decide +kernel
theorem dX9_readsSign_18 : decode cX9_readsSign 18 = .ok (.iconst 0, 1) := by decide +kernel
theorem dX9_readsSign_19 : decode cX9_readsSign 19 = .ok (.iastore, 1) := by decide +kernel
theorem dX9_readsSign_20 : decode cX9_readsSign 20 = .ok (.aload_n 0, 1) := by decide +kernel
theorem dX9_readsSign_21 : decode cX9_readsSign 21 = .ok (.bipush 43, 2) := by decide +kernel
theorem dX9_readsSign_23 : decode cX9_readsSign 23 = .ok (.invokevirtual 232, 3) := by decide +kernel
theorem dX9_readsSign_26 : decode cX9_readsSign 26 = .ok (.ifCond .ne 12, 3) := by decide +kernel
theorem dX9_readsSign_29 : decode cX9_readsSign 29 = .ok (.aload_n 0, 1) := by decide +kernel
theorem dX9_readsSign_30 : decode cX9_readsSign 30 = .ok (.bipush 45, 2) := by decide +kernel
theorem dX9_readsSign_32 : decode cX9_readsSign 32 = .ok (.invokevirtual 232, 3) := by decide +kernel
theorem dX9_readsSign_35 : decode cX9_readsSign 35 = .ok (.ifCond .eq 7, 3) := by decide +kernel
theorem dX9_readsSign_38 : decode cX9_readsSign 38 = .ok (.iconst 1, 1) := by decide +kernel
theorem dX9_readsSign_39 : decode cX9_readsSign 39 = .ok (.goto 4, 3) := by decide +kernel
theorem dX9_readsSign_42 : decode cX9_readsSign 42 = .ok (.iconst 0, 1) := by decide +kernel
theorem dX9_readsSign_43 : decode cX9_readsSign 43 = .ok (.ireturn, 1) := by decide +kernel
theorem dX9_readsAdd_0 : decode cX9_readsAdd 0 = .ok (.aload_n 0, 1) := by decide +kernel
theorem dX9_readsAdd_1 : decode cX9_readsAdd 1 = .ok (.bipush 100, 2) := by decide +kernel
theorem dX9_readsAdd_3 : decode cX9_readsAdd 3 = .ok (.invokevirtual 232, 3) := by decide +kernel
theorem dX9_readsAdd_6 : decode cX9_readsAdd 6 = .ok (.ifCond .eq 21, 3) := by decide +kernel
theorem dX9_readsAdd_9 : decode cX9_readsAdd 9 = .ok (.aload_n 0, 1) := by decide +kernel
theorem dX9_readsAdd_10 : decode cX9_readsAdd 10 = .ok (.bipush 100, 2) := by decide +kernel
theorem dX9_readsAdd_12 : decode cX9_readsAdd 12 = .ok (.invokevirtual 232, 3) := by decide +kernel
theorem dX9_readsAdd_15 : decode cX9_readsAdd 15 = .ok (.ifCond .eq 12, 3) := by decide +kernel
theorem dX9_readsAdd_18 : decode cX9_readsAdd 18 = .ok (.aload_n 0, 1) := by decide +kernel
theorem dX9_readsAdd_19 : decode cX9_readsAdd 19 = .ok (.bipush 32, 2) := by decide +kernel
theorem dX9_readsAdd_21 : decode cX9_readsAdd 21 = .ok (.invokevirtual 232, 3) := by decide +kernel
theorem dX9_readsAdd_24 : decode cX9_readsAdd 24 = .ok (.ifCond .ne 5, 3) := by decide +kernel
theorem dX9_readsAdd_27 : decode cX9_readsAdd 27 = .ok (.iconst 0, 1) := by decide +kernel
theorem dX9_readsAdd_28 : decode cX9_readsAdd 28 = .ok (.ireturn, 1) := by decide +kernel
theorem dX9_readsAdd_29 : decode cX9_readsAdd 29 = .ok (.aload_n 0, 1) := by decide +kernel
theorem dX9_readsAdd_30 : decode cX9_readsAdd 30 = .ok (.getfield 42, 3) := by decide +kernel
theorem dX9_readsAdd_33 : decode cX9_readsAdd 33 = .ok (.iconst 0, 1) := by decide +kernel
theorem dX9_readsAdd_34 : decode cX9_readsAdd 34 = .ok (.aload_n 0, 1) := by decide +kernel
theorem dX9_readsAdd_35 : decode cX9_readsAdd 35 = .ok (.invokevirtual 226, 3) := by decide +kernel
theorem dX9_readsAdd_38 : decode cX9_readsAdd 38 = .ok (.iastore, 1) := by decide +kernel
theorem dX9_readsAdd_39 : decode cX9_readsAdd 39 = .ok (.aload_n 0, 1) := by decide +kernel
theorem dX9_readsAdd_40 : decode cX9_readsAdd 40 = .ok (.bipush 115, 2) := by decide +kernel
theorem dX9_readsAdd_42 : decode cX9_readsAdd 42 = .ok (.invokevirtual 232, 3) := by decide +kernel
theorem dX9_readsAdd_45 : decode cX9_readsAdd 45 = .ok (.ifCond .ne 23, 3) := by decide +kernel
theorem dX9_readsAdd_48 : decode cX9_readsAdd 48 = .ok (.aload_n 0, 1) := by decide +kernel
theorem dX9_readsAdd_49 : decode cX9_readsAdd 49 = .ok (.bipush 119, 2) := by decide +kernel
theorem dX9_readsAdd_51 : decode cX9_readsAdd 51 = .ok (.invokevirtual 232, 3) := by decide +kernel
theorem dX9_readsAdd_54 : decode cX9_readsAdd 54 = .ok (.ifCond .ne 14, 3) := by decide +kernel
theorem dX9_readsAdd_57 : decode cX9_readsAdd 57 = .ok (.aload_n 0, 1) := by decide +kernel
theorem dX9_readsAdd_58 : decode cX9_readsAdd 58 = .ok (.bipush 100, 2) := by decide +kernel
theorem dX9_readsAdd_60 : decode cX9_readsAdd 60 = .ok (.invokevirtual 232, 3) := by decide +kernel
theorem dX9_readsAdd_63 : decode cX9_readsAdd 63 = .ok (.ifCond .ne 5, 3) := by decide +kernel
theorem dX9_readsAdd_66 : decode cX9_readsAdd 66 = .ok (.iconst 0, 1) := by decide +kernel
theorem dX9_readsAdd_67 : decode cX9_readsAdd 67 = .ok (.ireturn, 1) := by decide +kernel
theorem dX9_readsAdd_68 : decode cX9_readsAdd 68 = .ok (.aload_n 0, 1) := by decide +kernel
theorem dX9_readsAdd_69 : decode cX9_readsAdd 69 = .ok (.iconst 1, 1) := by decide +kernel
theorem dX9_readsAdd_70 : decode cX9_readsAdd 70 = .ok (.invokevirtual 229, 3) := by decide +kernel
theorem dX9_readsAdd_73 : decode cX9_readsAdd 73 = .ok (.ifCond .eq 15, 3) := by decide +kernel
theorem dX9_readsAdd_76 : decode cX9_readsAdd 76 = .ok (.aload_n 0, 1) := by decide +kernel
theorem dX9_readsAdd_77 : decode cX9_readsAdd 77 = .ok (.iconst 2, 1) := by decide +kernel
theorem dX9_readsAdd_78 : decode cX9_readsAdd 78 = .ok (.invokevirtual 229, 3) := by decide +kernel
theorem dX9_readsAdd_81 : decode cX9_readsAdd 81 = .ok (.ifCond .eq 7, 3) := by decide +kernel
theorem dX9_readsAdd_84 : decode cX9_readsAdd 84 = .ok (.iconst 1, 1) := by decide +kernel
theorem dX9_readsAdd_85 : decode cX9_readsAdd 85 = .ok (.goto 4, 3) := by decide +kernel
theorem dX9_readsAdd_88 : decode cX9_readsAdd 88 = .ok (.iconst 0, 1) := by decide +kernel
theorem dX9_readsAdd_89 : decode cX9_readsAdd 89 = .ok (.ireturn, 1) := by decide +kernel
theorem dX9_readsNote_0 : decode cX9_readsNote 0 = .ok (.aload_n 0, 1) := by decide +kernel
theorem dX9_readsNote_1 : decode cX9_readsNote 1 = .ok (.bipush 111, 2) := by decide +kernel
theorem dX9_readsNote_3 : decode cX9_readsNote 3 = .ok (.invokevirtual 232, 3) := by decide +kernel
theorem dX9_readsNote_6 : decode cX9_readsNote 6 = .ok (.ifCond .eq 47, 3) := by decide +kernel
theorem dX9_readsNote_9 : decode cX9_readsNote 9 = .ok (.aload_n 0, 1) := by decide +kernel
theorem dX9_readsNote_10 : decode cX9_readsNote 10 = .ok (.bipush 116, 2) := by decide +kernel
theorem dX9_readsNote_12 : decode cX9_readsNote 12 = .ok (.invokevirtual 232, 3) := by decide +kernel
theorem dX9_readsNote_15 : decode cX9_readsNote 15 = .ok (.ifCond .eq 38, 3) := by decide +kernel
theorem dX9_readsNote_18 : decode cX9_readsNote 18 = .ok (.aload_n 0, 1) := by decide +kernel
theorem dX9_readsNote_19 : decode cX9_readsNote 19 = .ok (.bipush 101, 2) := by decide +kernel
theorem dX9_readsNote_21 : decode cX9_readsNote 21 = .ok (.invokevirtual 232, 3) := by decide +kernel
theorem dX9_readsNote_24 : decode cX9_readsNote 24 = .ok (.ifCond .eq 29, 3) := by decide +kernel
theorem dX9_readsNote_27 : decode cX9_readsNote 27 = .ok (.aload_n 0, 1) := by decide +kernel
theorem dX9_readsNote_28 : decode cX9_readsNote 28 = .ok (.bipush 32, 2) := by decide +kernel
theorem dX9_readsNote_30 : decode cX9_readsNote 30 = .ok (.invokevirtual 232, 3) := by decide +kernel
theorem dX9_readsNote_33 : decode cX9_readsNote 33 = .ok (.ifCond .eq 20, 3) := by decide +kernel
theorem dX9_readsNote_36 : decode cX9_readsNote 36 = .ok (.aload_n 0, 1) := by decide +kernel
theorem dX9_readsNote_37 : decode cX9_readsNote 37 = .ok (.iconst 0, 1) := by decide +kernel
theorem dX9_readsNote_38 : decode cX9_readsNote 38 = .ok (.invokevirtual 229, 3) := by decide +kernel
theorem dX9_readsNote_41 : decode cX9_readsNote 41 = .ok (.ifCond .eq 12, 3) := by decide +kernel
theorem dX9_readsNote_44 : decode cX9_readsNote 44 = .ok (.aload_n 0, 1) := by decide +kernel
theorem dX9_readsNote_45 : decode cX9_readsNote 45 = .ok (.bipush 32, 2) := by decide +kernel
theorem dX9_readsNote_47 : decode cX9_readsNote 47 = .ok (.invokevirtual 232, 3) := by decide +kernel
theorem dX9_readsNote_50 : decode cX9_readsNote 50 = .ok (.ifCond .ne 5, 3) := by decide +kernel
theorem dX9_readsNote_53 : decode cX9_readsNote 53 = .ok (.iconst 0, 1) := by decide +kernel
theorem dX9_readsNote_54 : decode cX9_readsNote 54 = .ok (.ireturn, 1) := by decide +kernel
theorem dX9_readsNote_55 : decode cX9_readsNote 55 = .ok (.aload_n 0, 1) := by decide +kernel
theorem dX9_readsNote_56 : decode cX9_readsNote 56 = .ok (.iconst 1, 1) := by decide +kernel
theorem dX9_readsNote_57 : decode cX9_readsNote 57 = .ok (.invokevirtual 229, 3) := by decide +kernel
theorem dX9_readsNote_60 : decode cX9_readsNote 60 = .ok (.ifCond .eq 32, 3) := by decide +kernel
theorem dX9_readsNote_63 : decode cX9_readsNote 63 = .ok (.aload_n 0, 1) := by decide +kernel
theorem dX9_readsNote_64 : decode cX9_readsNote 64 = .ok (.iconst 2, 1) := by decide +kernel
theorem dX9_readsNote_65 : decode cX9_readsNote 65 = .ok (.invokevirtual 229, 3) := by decide +kernel
theorem dX9_readsNote_68 : decode cX9_readsNote 68 = .ok (.ifCond .eq 24, 3) := by decide +kernel
theorem dX9_readsNote_71 : decode cX9_readsNote 71 = .ok (.aload_n 0, 1) := by decide +kernel
theorem dX9_readsNote_72 : decode cX9_readsNote 72 = .ok (.bipush 61, 2) := by decide +kernel
theorem dX9_readsNote_74 : decode cX9_readsNote 74 = .ok (.invokevirtual 232, 3) := by decide +kernel
theorem dX9_readsNote_77 : decode cX9_readsNote 77 = .ok (.ifCond .eq 15, 3) := by decide +kernel
theorem dX9_readsNote_80 : decode cX9_readsNote 80 = .ok (.aload_n 0, 1) := by decide +kernel
theorem dX9_readsNote_81 : decode cX9_readsNote 81 = .ok (.iconst 3, 1) := by decide +kernel
theorem dX9_readsNote_82 : decode cX9_readsNote 82 = .ok (.invokevirtual 229, 3) := by decide +kernel
theorem dX9_readsNote_85 : decode cX9_readsNote 85 = .ok (.ifCond .eq 7, 3) := by decide +kernel
theorem dX9_readsNote_88 : decode cX9_readsNote 88 = .ok (.iconst 1, 1) := by decide +kernel
theorem dX9_readsNote_89 : decode cX9_readsNote 89 = .ok (.goto 4, 3) := by decide +kernel
theorem dX9_readsNote_92 : decode cX9_readsNote 92 = .ok (.iconst 0, 1) := by decide +kernel
theorem dX9_readsNote_93 : decode cX9_readsNote 93 = .ok (.ireturn, 1) := by decide +kernel
theorem dX9_readsMask_0 : decode cX9_readsMask 0 = .ok (.aload_n 0, 1) := by decide +kernel
theorem dX9_readsMask_1 : decode cX9_readsMask 1 = .ok (.bipush 97, 2) := by decide +kernel
theorem dX9_readsMask_3 : decode cX9_readsMask 3 = .ok (.invokevirtual 232, 3) := by decide +kernel
theorem dX9_readsMask_6 : decode cX9_readsMask 6 = .ok (.ifCond .eq 47, 3) := by decide +kernel
theorem dX9_readsMask_9 : decode cX9_readsMask 9 = .ok (.aload_n 0, 1) := by decide +kernel
theorem dX9_readsMask_10 : decode cX9_readsMask 10 = .ok (.bipush 115, 2) := by decide +kernel
theorem dX9_readsMask_12 : decode cX9_readsMask 12 = .ok (.invokevirtual 232, 3) := by decide +kernel
theorem dX9_readsMask_15 : decode cX9_readsMask 15 = .ok (.ifCond .eq 38, 3) := by decide +kernel
theorem dX9_readsMask_18 : decode cX9_readsMask 18 = .ok (.aload_n 0, 1) := by decide +kernel
theorem dX9_readsMask_19 : decode cX9_readsMask 19 = .ok (.bipush 107, 2) := by decide +kernel
theorem dX9_readsMask_21 : decode cX9_readsMask 21 = .ok (.invokevirtual 232, 3) := by decide +kernel
theorem dX9_readsMask_24 : decode cX9_readsMask 24 = .ok (.ifCond .eq 29, 3) := by decide +kernel
theorem dX9_readsMask_27 : decode cX9_readsMask 27 = .ok (.aload_n 0, 1) := by decide +kernel
theorem dX9_readsMask_28 : decode cX9_readsMask 28 = .ok (.bipush 32, 2) := by decide +kernel
theorem dX9_readsMask_30 : decode cX9_readsMask 30 = .ok (.invokevirtual 232, 3) := by decide +kernel
theorem dX9_readsMask_33 : decode cX9_readsMask 33 = .ok (.ifCond .eq 20, 3) := by decide +kernel
theorem dX9_readsMask_36 : decode cX9_readsMask 36 = .ok (.aload_n 0, 1) := by decide +kernel
theorem dX9_readsMask_37 : decode cX9_readsMask 37 = .ok (.iconst 0, 1) := by decide +kernel
theorem dX9_readsMask_38 : decode cX9_readsMask 38 = .ok (.invokevirtual 229, 3) := by decide +kernel
theorem dX9_readsMask_41 : decode cX9_readsMask 41 = .ok (.ifCond .eq 12, 3) := by decide +kernel
theorem dX9_readsMask_44 : decode cX9_readsMask 44 = .ok (.aload_n 0, 1) := by decide +kernel
theorem dX9_readsMask_45 : decode cX9_readsMask 45 = .ok (.bipush 32, 2) := by decide +kernel
theorem dX9_readsMask_47 : decode cX9_readsMask 47 = .ok (.invokevirtual 232, 3) := by decide +kernel
theorem dX9_readsMask_50 : decode cX9_readsMask 50 = .ok (.ifCond .ne 5, 3) := by decide +kernel
theorem dX9_readsMask_53 : decode cX9_readsMask 53 = .ok (.iconst 0, 1) := by decide +kernel
theorem dX9_readsMask_54 : decode cX9_readsMask 54 = .ok (.ireturn, 1) := by decide +kernel
theorem dX9_readsMask_55 : decode cX9_readsMask 55 = .ok (.aload_n 0, 1) := by decide +kernel
theorem dX9_readsMask_56 : decode cX9_readsMask 56 = .ok (.iconst 1, 1) := by decide +kernel
theorem dX9_readsMask_57 : decode cX9_readsMask 57 = .ok (.invokevirtual 229, 3) := by decide +kernel
theorem dX9_readsMask_60 : decode cX9_readsMask 60 = .ok (.ifCond .eq 15, 3) := by decide +kernel
theorem dX9_readsMask_63 : decode cX9_readsMask 63 = .ok (.aload_n 0, 1) := by decide +kernel
theorem dX9_readsMask_64 : decode cX9_readsMask 64 = .ok (.iconst 2, 1) := by decide +kernel
theorem dX9_readsMask_65 : decode cX9_readsMask 65 = .ok (.invokevirtual 235, 3) := by decide +kernel
theorem dX9_readsMask_68 : decode cX9_readsMask 68 = .ok (.ifCond .eq 7, 3) := by decide +kernel
theorem dX9_readsMask_71 : decode cX9_readsMask 71 = .ok (.iconst 1, 1) := by decide +kernel
theorem dX9_readsMask_72 : decode cX9_readsMask 72 = .ok (.goto 4, 3) := by decide +kernel
theorem dX9_readsMask_75 : decode cX9_readsMask 75 = .ok (.iconst 0, 1) := by decide +kernel
theorem dX9_readsMask_76 : decode cX9_readsMask 76 = .ok (.ireturn, 1) := by decide +kernel
theorem dX9_readsRaise_0 : decode cX9_readsRaise 0 = .ok (.aload_n 0, 1) := by decide +kernel
theorem dX9_readsRaise_1 : decode cX9_readsRaise 1 = .ok (.bipush 97, 2) := by decide +kernel
theorem dX9_readsRaise_3 : decode cX9_readsRaise 3 = .ok (.invokevirtual 232, 3) := by decide +kernel
theorem dX9_readsRaise_6 : decode cX9_readsRaise 6 = .ok (.ifCond .eq 56, 3) := by decide +kernel
theorem dX9_readsRaise_9 : decode cX9_readsRaise 9 = .ok (.aload_n 0, 1) := by decide +kernel
theorem dX9_readsRaise_10 : decode cX9_readsRaise 10 = .ok (.bipush 105, 2) := by decide +kernel
theorem dX9_readsRaise_12 : decode cX9_readsRaise 12 = .ok (.invokevirtual 232, 3) := by decide +kernel
theorem dX9_readsRaise_15 : decode cX9_readsRaise 15 = .ok (.ifCond .eq 47, 3) := by decide +kernel
theorem dX9_readsRaise_18 : decode cX9_readsRaise 18 = .ok (.aload_n 0, 1) := by decide +kernel
theorem dX9_readsRaise_19 : decode cX9_readsRaise 19 = .ok (.bipush 115, 2) := by decide +kernel
theorem dX9_readsRaise_21 : decode cX9_readsRaise 21 = .ok (.invokevirtual 232, 3) := by decide +kernel
theorem dX9_readsRaise_24 : decode cX9_readsRaise 24 = .ok (.ifCond .eq 38, 3) := by decide +kernel
theorem dX9_readsRaise_27 : decode cX9_readsRaise 27 = .ok (.aload_n 0, 1) := by decide +kernel
theorem dX9_readsRaise_28 : decode cX9_readsRaise 28 = .ok (.bipush 101, 2) := by decide +kernel
theorem dX9_readsRaise_30 : decode cX9_readsRaise 30 = .ok (.invokevirtual 232, 3) := by decide +kernel
theorem dX9_readsRaise_33 : decode cX9_readsRaise 33 = .ok (.ifCond .eq 29, 3) := by decide +kernel
theorem dX9_readsRaise_36 : decode cX9_readsRaise 36 = .ok (.aload_n 0, 1) := by decide +kernel
theorem dX9_readsRaise_37 : decode cX9_readsRaise 37 = .ok (.bipush 32, 2) := by decide +kernel
theorem dX9_readsRaise_39 : decode cX9_readsRaise 39 = .ok (.invokevirtual 232, 3) := by decide +kernel
theorem dX9_readsRaise_42 : decode cX9_readsRaise 42 = .ok (.ifCond .eq 20, 3) := by decide +kernel
theorem dX9_readsRaise_45 : decode cX9_readsRaise 45 = .ok (.aload_n 0, 1) := by decide +kernel
theorem dX9_readsRaise_46 : decode cX9_readsRaise 46 = .ok (.iconst 0, 1) := by decide +kernel
theorem dX9_readsRaise_47 : decode cX9_readsRaise 47 = .ok (.invokevirtual 229, 3) := by decide +kernel
theorem dX9_readsRaise_50 : decode cX9_readsRaise 50 = .ok (.ifCond .eq 12, 3) := by decide +kernel
theorem dX9_readsRaise_53 : decode cX9_readsRaise 53 = .ok (.aload_n 0, 1) := by decide +kernel
theorem dX9_readsRaise_54 : decode cX9_readsRaise 54 = .ok (.bipush 32, 2) := by decide +kernel
theorem dX9_readsRaise_56 : decode cX9_readsRaise 56 = .ok (.invokevirtual 232, 3) := by decide +kernel
theorem dX9_readsRaise_59 : decode cX9_readsRaise 59 = .ok (.ifCond .ne 5, 3) := by decide +kernel
theorem dX9_readsRaise_62 : decode cX9_readsRaise 62 = .ok (.iconst 0, 1) := by decide +kernel
theorem dX9_readsRaise_63 : decode cX9_readsRaise 63 = .ok (.ireturn, 1) := by decide +kernel
theorem dX9_readsRaise_64 : decode cX9_readsRaise 64 = .ok (.aload_n 0, 1) := by decide +kernel
theorem dX9_readsRaise_65 : decode cX9_readsRaise 65 = .ok (.iconst 2, 1) := by decide +kernel
theorem dX9_readsRaise_66 : decode cX9_readsRaise 66 = .ok (.invokevirtual 235, 3) := by decide +kernel
theorem dX9_readsRaise_69 : decode cX9_readsRaise 69 = .ok (.ifCond .eq 11, 3) := by decide +kernel
theorem dX9_readsRaise_72 : decode cX9_readsRaise 72 = .ok (.aload_n 0, 1) := by decide +kernel
theorem dX9_readsRaise_73 : decode cX9_readsRaise 73 = .ok (.iconst 1, 1) := by decide +kernel
theorem dX9_readsRaise_74 : decode cX9_readsRaise 74 = .ok (.invokevirtual 229, 3) := by decide +kernel
theorem dX9_readsRaise_77 : decode cX9_readsRaise 77 = .ok (.ifCond .ne 5, 3) := by decide +kernel
theorem dX9_readsRaise_80 : decode cX9_readsRaise 80 = .ok (.iconst 0, 1) := by decide +kernel
theorem dX9_readsRaise_81 : decode cX9_readsRaise 81 = .ok (.ireturn, 1) := by decide +kernel
theorem dX9_readsRaise_82 : decode cX9_readsRaise 82 = .ok (.aload_n 0, 1) := by decide +kernel
theorem dX9_readsRaise_83 : decode cX9_readsRaise 83 = .ok (.getfield 42, 3) := by decide +kernel
theorem dX9_readsRaise_86 : decode cX9_readsRaise 86 = .ok (.iconst 2, 1) := by decide +kernel
theorem dX9_readsRaise_87 : decode cX9_readsRaise 87 = .ok (.iaload, 1) := by decide +kernel
theorem dX9_readsRaise_88 : decode cX9_readsRaise 88 = .ok (.ifCond .ne 16, 3) := by decide +kernel
theorem dX9_readsRaise_91 : decode cX9_readsRaise 91 = .ok (.aload_n 0, 1) := by decide +kernel
theorem dX9_readsRaise_92 : decode cX9_readsRaise 92 = .ok (.getfield 42, 3) := by decide +kernel
theorem dX9_readsRaise_95 : decode cX9_readsRaise 95 = .ok (.iconst 1, 1) := by decide +kernel
theorem dX9_readsRaise_96 : decode cX9_readsRaise 96 = .ok (.aload_n 0, 1) := by decide +kernel
theorem dX9_readsRaise_97 : decode cX9_readsRaise 97 = .ok (.getfield 42, 3) := by decide +kernel
theorem dX9_readsRaise_100 : decode cX9_readsRaise 100 = .ok (.iconst 1, 1) := by decide +kernel
theorem dX9_readsRaise_101 : decode cX9_readsRaise 101 = .ok (.iaload, 1) := by decide +kernel
theorem dX9_readsRaise_102 : decode cX9_readsRaise 102 = .ok (.ineg, 1) := by decide +kernel
theorem dX9_readsRaise_103 : decode cX9_readsRaise 103 = .ok (.iastore, 1) := by decide +kernel
theorem dX9_readsRaise_104 : decode cX9_readsRaise 104 = .ok (.iconst 1, 1) := by decide +kernel
theorem dX9_readsRaise_105 : decode cX9_readsRaise 105 = .ok (.ireturn, 1) := by decide +kernel
theorem dX9_readsT_0 : decode cX9_readsT 0 = .ok (.aload_n 0, 1) := by decide +kernel
theorem dX9_readsT_1 : decode cX9_readsT 1 = .ok (.bipush 117, 2) := by decide +kernel
theorem dX9_readsT_3 : decode cX9_readsT 3 = .ok (.invokevirtual 232, 3) := by decide +kernel
theorem dX9_readsT_6 : decode cX9_readsT 6 = .ok (.ifCond .eq 44, 3) := by decide +kernel
theorem dX9_readsT_9 : decode cX9_readsT 9 = .ok (.aload_n 0, 1) := by decide +kernel
theorem dX9_readsT_10 : decode cX9_readsT 10 = .ok (.bipush 114, 2) := by decide +kernel
theorem dX9_readsT_12 : decode cX9_readsT 12 = .ok (.invokevirtual 232, 3) := by decide +kernel
theorem dX9_readsT_15 : decode cX9_readsT 15 = .ok (.ifCond .eq 33, 3) := by decide +kernel
theorem dX9_readsT_18 : decode cX9_readsT 18 = .ok (.aload_n 0, 1) := by decide +kernel
theorem dX9_readsT_19 : decode cX9_readsT 19 = .ok (.bipush 110, 2) := by decide +kernel
theorem dX9_readsT_21 : decode cX9_readsT 21 = .ok (.invokevirtual 232, 3) := by decide +kernel
theorem dX9_readsT_24 : decode cX9_readsT 24 = .ok (.ifCond .eq 24, 3) := by decide +kernel
theorem dX9_readsT_27 : decode cX9_readsT 27 = .ok (.aload_n 0, 1) := by decide +kernel
theorem dX9_readsT_28 : decode cX9_readsT 28 = .ok (.bipush 32, 2) := by decide +kernel
theorem dX9_readsT_30 : decode cX9_readsT 30 = .ok (.invokevirtual 232, 3) := by decide +kernel
theorem dX9_readsT_33 : decode cX9_readsT 33 = .ok (.ifCond .eq 15, 3) := by decide +kernel
theorem dX9_readsT_36 : decode cX9_readsT 36 = .ok (.aload_n 0, 1) := by decide +kernel
theorem dX9_readsT_37 : decode cX9_readsT 37 = .ok (.iconst 0, 1) := by decide +kernel
theorem dX9_readsT_38 : decode cX9_readsT 38 = .ok (.invokevirtual 229, 3) := by decide +kernel
theorem dX9_readsT_41 : decode cX9_readsT 41 = .ok (.ifCond .eq 7, 3) := by decide +kernel
theorem dX9_readsT_44 : decode cX9_readsT 44 = .ok (.iconst 1, 1) := by decide +kernel
theorem dX9_readsT_45 : decode cX9_readsT 45 = .ok (.goto 4, 3) := by decide +kernel
theorem dX9_readsT_48 : decode cX9_readsT 48 = .ok (.iconst 0, 1) := by decide +kernel
theorem dX9_readsT_49 : decode cX9_readsT 49 = .ok (.ireturn, 1) := by decide +kernel
theorem dX9_readsT_50 : decode cX9_readsT 50 = .ok (.aload_n 0, 1) := by decide +kernel
theorem dX9_readsT_51 : decode cX9_readsT 51 = .ok (.bipush 101, 2) := by decide +kernel
theorem dX9_readsT_53 : decode cX9_readsT 53 = .ok (.putfield 238, 3) := by decide +kernel
theorem dX9_readsT_56 : decode cX9_readsT 56 = .ok (.aload_n 0, 1) := by decide +kernel
theorem dX9_readsT_57 : decode cX9_readsT 57 = .ok (.bipush 101, 2) := by decide +kernel
theorem dX9_readsT_59 : decode cX9_readsT 59 = .ok (.invokevirtual 232, 3) := by decide +kernel
theorem dX9_readsT_62 : decode cX9_readsT 62 = .ok (.ifCond .eq 51, 3) := by decide +kernel
theorem dX9_readsT_65 : decode cX9_readsT 65 = .ok (.aload_n 0, 1) := by decide +kernel
theorem dX9_readsT_66 : decode cX9_readsT 66 = .ok (.bipush 109, 2) := by decide +kernel
theorem dX9_readsT_68 : decode cX9_readsT 68 = .ok (.invokevirtual 232, 3) := by decide +kernel
theorem dX9_readsT_71 : decode cX9_readsT 71 = .ok (.ifCond .eq 42, 3) := by decide +kernel
theorem dX9_readsT_74 : decode cX9_readsT 74 = .ok (.aload_n 0, 1) := by decide +kernel
theorem dX9_readsT_75 : decode cX9_readsT 75 = .ok (.bipush 112, 2) := by decide +kernel
theorem dX9_readsT_77 : decode cX9_readsT 77 = .ok (.invokevirtual 232, 3) := by decide +kernel
theorem dX9_readsT_80 : decode cX9_readsT 80 = .ok (.ifCond .eq 33, 3) := by decide +kernel
theorem dX9_readsT_83 : decode cX9_readsT 83 = .ok (.aload_n 0, 1) := by decide +kernel
theorem dX9_readsT_84 : decode cX9_readsT 84 = .ok (.bipush 111, 2) := by decide +kernel
theorem dX9_readsT_86 : decode cX9_readsT 86 = .ok (.invokevirtual 232, 3) := by decide +kernel
theorem dX9_readsT_89 : decode cX9_readsT 89 = .ok (.ifCond .eq 24, 3) := by decide +kernel
theorem dX9_readsT_92 : decode cX9_readsT 92 = .ok (.aload_n 0, 1) := by decide +kernel
theorem dX9_readsT_93 : decode cX9_readsT 93 = .ok (.bipush 32, 2) := by decide +kernel
theorem dX9_readsT_95 : decode cX9_readsT 95 = .ok (.invokevirtual 232, 3) := by decide +kernel
theorem dX9_readsT_98 : decode cX9_readsT 98 = .ok (.ifCond .eq 15, 3) := by decide +kernel
theorem dX9_readsT_101 : decode cX9_readsT 101 = .ok (.aload_n 0, 1) := by decide +kernel
theorem dX9_readsT_102 : decode cX9_readsT 102 = .ok (.iconst 0, 1) := by decide +kernel
theorem dX9_readsT_103 : decode cX9_readsT 103 = .ok (.invokevirtual 229, 3) := by decide +kernel
theorem dX9_readsT_106 : decode cX9_readsT 106 = .ok (.ifCond .eq 7, 3) := by decide +kernel
theorem dX9_readsT_109 : decode cX9_readsT 109 = .ok (.iconst 1, 1) := by decide +kernel
theorem dX9_readsT_110 : decode cX9_readsT 110 = .ok (.goto 4, 3) := by decide +kernel
theorem dX9_readsT_113 : decode cX9_readsT 113 = .ok (.iconst 0, 1) := by decide +kernel
theorem dX9_readsT_114 : decode cX9_readsT 114 = .ok (.ireturn, 1) := by decide +kernel
theorem dX9_readsBeat_0 : decode cX9_readsBeat 0 = .ok (.aload_n 0, 1) := by decide +kernel
theorem dX9_readsBeat_1 : decode cX9_readsBeat 1 = .ok (.bipush 101, 2) := by decide +kernel
theorem dX9_readsBeat_3 : decode cX9_readsBeat 3 = .ok (.invokevirtual 232, 3) := by decide +kernel
theorem dX9_readsBeat_6 : decode cX9_readsBeat 6 = .ok (.ifCond .eq 21, 3) := by decide +kernel
theorem dX9_readsBeat_9 : decode cX9_readsBeat 9 = .ok (.aload_n 0, 1) := by decide +kernel
theorem dX9_readsBeat_10 : decode cX9_readsBeat 10 = .ok (.bipush 97, 2) := by decide +kernel
theorem dX9_readsBeat_12 : decode cX9_readsBeat 12 = .ok (.invokevirtual 232, 3) := by decide +kernel
theorem dX9_readsBeat_15 : decode cX9_readsBeat 15 = .ok (.ifCond .eq 12, 3) := by decide +kernel
theorem dX9_readsBeat_18 : decode cX9_readsBeat 18 = .ok (.aload_n 0, 1) := by decide +kernel
theorem dX9_readsBeat_19 : decode cX9_readsBeat 19 = .ok (.bipush 116, 2) := by decide +kernel
theorem dX9_readsBeat_21 : decode cX9_readsBeat 21 = .ok (.invokevirtual 232, 3) := by decide +kernel
theorem dX9_readsBeat_24 : decode cX9_readsBeat 24 = .ok (.ifCond .ne 5, 3) := by decide +kernel
theorem dX9_readsBeat_27 : decode cX9_readsBeat 27 = .ok (.iconst 0, 1) := by decide +kernel
theorem dX9_readsBeat_28 : decode cX9_readsBeat 28 = .ok (.ireturn, 1) := by decide +kernel
theorem dX9_readsBeat_29 : decode cX9_readsBeat 29 = .ok (.aload_n 0, 1) := by decide +kernel
theorem dX9_readsBeat_30 : decode cX9_readsBeat 30 = .ok (.getfield 42, 3) := by decide +kernel
theorem dX9_readsBeat_33 : decode cX9_readsBeat 33 = .ok (.iconst 0, 1) := by decide +kernel
theorem dX9_readsBeat_34 : decode cX9_readsBeat 34 = .ok (.iconst 1, 1) := by decide +kernel
theorem dX9_readsBeat_35 : decode cX9_readsBeat 35 = .ok (.iastore, 1) := by decide +kernel
theorem dX9_readsBeat_36 : decode cX9_readsBeat 36 = .ok (.aload_n 0, 1) := by decide +kernel
theorem dX9_readsBeat_37 : decode cX9_readsBeat 37 = .ok (.bipush 32, 2) := by decide +kernel
theorem dX9_readsBeat_39 : decode cX9_readsBeat 39 = .ok (.invokevirtual 232, 3) := by decide +kernel
theorem dX9_readsBeat_42 : decode cX9_readsBeat 42 = .ok (.ifCond .eq 11, 3) := by decide +kernel
theorem dX9_readsBeat_45 : decode cX9_readsBeat 45 = .ok (.aload_n 0, 1) := by decide +kernel
theorem dX9_readsBeat_46 : decode cX9_readsBeat 46 = .ok (.iconst 0, 1) := by decide +kernel
theorem dX9_readsBeat_47 : decode cX9_readsBeat 47 = .ok (.invokevirtual 241, 3) := by decide +kernel
theorem dX9_readsBeat_50 : decode cX9_readsBeat 50 = .ok (.ifCond .eq 7, 3) := by decide +kernel
theorem dX9_readsBeat_53 : decode cX9_readsBeat 53 = .ok (.iconst 1, 1) := by decide +kernel
theorem dX9_readsBeat_54 : decode cX9_readsBeat 54 = .ok (.goto 4, 3) := by decide +kernel
theorem dX9_readsBeat_57 : decode cX9_readsBeat 57 = .ok (.iconst 0, 1) := by decide +kernel
theorem dX9_readsBeat_58 : decode cX9_readsBeat 58 = .ok (.ireturn, 1) := by decide +kernel
theorem dX9_readsCommand_0 : decode cX9_readsCommand 0 = .ok (.aload_n 0, 1) := by decide +kernel
theorem dX9_readsCommand_1 : decode cX9_readsCommand 1 = .ok (.aload_n 0, 1) := by decide +kernel
theorem dX9_readsCommand_2 : decode cX9_readsCommand 2 = .ok (.invokevirtual 226, 3) := by decide +kernel
theorem dX9_readsCommand_5 : decode cX9_readsCommand 5 = .ok (.putfield 238, 3) := by decide +kernel
theorem dX9_readsCommand_8 : decode cX9_readsCommand 8 = .ok (.aload_n 0, 1) := by decide +kernel
theorem dX9_readsCommand_9 : decode cX9_readsCommand 9 = .ok (.bipush 97, 2) := by decide +kernel
theorem dX9_readsCommand_11 : decode cX9_readsCommand 11 = .ok (.invokevirtual 232, 3) := by decide +kernel
theorem dX9_readsCommand_14 : decode cX9_readsCommand 14 = .ok (.ifCond .eq 8, 3) := by decide +kernel
theorem dX9_readsCommand_17 : decode cX9_readsCommand 17 = .ok (.aload_n 0, 1) := by decide +kernel
theorem dX9_readsCommand_18 : decode cX9_readsCommand 18 = .ok (.invokevirtual 244, 3) := by decide +kernel
theorem dX9_readsCommand_21 : decode cX9_readsCommand 21 = .ok (.ireturn, 1) := by decide +kernel
theorem dX9_readsCommand_22 : decode cX9_readsCommand 22 = .ok (.aload_n 0, 1) := by decide +kernel
theorem dX9_readsCommand_23 : decode cX9_readsCommand 23 = .ok (.bipush 100, 2) := by decide +kernel
theorem dX9_readsCommand_25 : decode cX9_readsCommand 25 = .ok (.invokevirtual 232, 3) := by decide +kernel
theorem dX9_readsCommand_28 : decode cX9_readsCommand 28 = .ok (.ifCond .eq 53, 3) := by decide +kernel
theorem dX9_readsCommand_31 : decode cX9_readsCommand 31 = .ok (.aload_n 0, 1) := by decide +kernel
theorem dX9_readsCommand_32 : decode cX9_readsCommand 32 = .ok (.bipush 114, 2) := by decide +kernel
theorem dX9_readsCommand_34 : decode cX9_readsCommand 34 = .ok (.invokevirtual 232, 3) := by decide +kernel
theorem dX9_readsCommand_37 : decode cX9_readsCommand 37 = .ok (.ifCond .eq 42, 3) := by decide +kernel
theorem dX9_readsCommand_40 : decode cX9_readsCommand 40 = .ok (.aload_n 0, 1) := by decide +kernel
theorem dX9_readsCommand_41 : decode cX9_readsCommand 41 = .ok (.bipush 111, 2) := by decide +kernel
theorem dX9_readsCommand_43 : decode cX9_readsCommand 43 = .ok (.invokevirtual 232, 3) := by decide +kernel
theorem dX9_readsCommand_46 : decode cX9_readsCommand 46 = .ok (.ifCond .eq 33, 3) := by decide +kernel
theorem dX9_readsCommand_49 : decode cX9_readsCommand 49 = .ok (.aload_n 0, 1) := by decide +kernel
theorem dX9_readsCommand_50 : decode cX9_readsCommand 50 = .ok (.bipush 112, 2) := by decide +kernel
theorem dX9_readsCommand_52 : decode cX9_readsCommand 52 = .ok (.invokevirtual 232, 3) := by decide +kernel
theorem dX9_readsCommand_55 : decode cX9_readsCommand 55 = .ok (.ifCond .eq 24, 3) := by decide +kernel
theorem dX9_readsCommand_58 : decode cX9_readsCommand 58 = .ok (.aload_n 0, 1) := by decide +kernel
theorem dX9_readsCommand_59 : decode cX9_readsCommand 59 = .ok (.bipush 32, 2) := by decide +kernel
theorem dX9_readsCommand_61 : decode cX9_readsCommand 61 = .ok (.invokevirtual 232, 3) := by decide +kernel
theorem dX9_readsCommand_64 : decode cX9_readsCommand 64 = .ok (.ifCond .eq 15, 3) := by decide +kernel
theorem dX9_readsCommand_67 : decode cX9_readsCommand 67 = .ok (.aload_n 0, 1) := by decide +kernel
theorem dX9_readsCommand_68 : decode cX9_readsCommand 68 = .ok (.iconst 0, 1) := by decide +kernel
theorem dX9_readsCommand_69 : decode cX9_readsCommand 69 = .ok (.invokevirtual 229, 3) := by decide +kernel
theorem dX9_readsCommand_72 : decode cX9_readsCommand 72 = .ok (.ifCond .eq 7, 3) := by decide +kernel
theorem dX9_readsCommand_75 : decode cX9_readsCommand 75 = .ok (.iconst 1, 1) := by decide +kernel
theorem dX9_readsCommand_76 : decode cX9_readsCommand 76 = .ok (.goto 4, 3) := by decide +kernel
theorem dX9_readsCommand_79 : decode cX9_readsCommand 79 = .ok (.iconst 0, 1) := by decide +kernel
theorem dX9_readsCommand_80 : decode cX9_readsCommand 80 = .ok (.ireturn, 1) := by decide +kernel
theorem dX9_readsCommand_81 : decode cX9_readsCommand 81 = .ok (.aload_n 0, 1) := by decide +kernel
theorem dX9_readsCommand_82 : decode cX9_readsCommand 82 = .ok (.bipush 110, 2) := by decide +kernel
theorem dX9_readsCommand_84 : decode cX9_readsCommand 84 = .ok (.invokevirtual 232, 3) := by decide +kernel
theorem dX9_readsCommand_87 : decode cX9_readsCommand 87 = .ok (.ifCond .eq 8, 3) := by decide +kernel
theorem dX9_readsCommand_90 : decode cX9_readsCommand 90 = .ok (.aload_n 0, 1) := by decide +kernel
theorem dX9_readsCommand_91 : decode cX9_readsCommand 91 = .ok (.invokevirtual 248, 3) := by decide +kernel
theorem dX9_readsCommand_94 : decode cX9_readsCommand 94 = .ok (.ireturn, 1) := by decide +kernel
theorem dX9_readsCommand_95 : decode cX9_readsCommand 95 = .ok (.aload_n 0, 1) := by decide +kernel
theorem dX9_readsCommand_96 : decode cX9_readsCommand 96 = .ok (.bipush 109, 2) := by decide +kernel
theorem dX9_readsCommand_98 : decode cX9_readsCommand 98 = .ok (.invokevirtual 232, 3) := by decide +kernel
theorem dX9_readsCommand_101 : decode cX9_readsCommand 101 = .ok (.ifCond .eq 8, 3) := by decide +kernel
theorem dX9_readsCommand_104 : decode cX9_readsCommand 104 = .ok (.aload_n 0, 1) := by decide +kernel
theorem dX9_readsCommand_105 : decode cX9_readsCommand 105 = .ok (.invokevirtual 251, 3) := by decide +kernel
theorem dX9_readsCommand_108 : decode cX9_readsCommand 108 = .ok (.ireturn, 1) := by decide +kernel
theorem dX9_readsCommand_109 : decode cX9_readsCommand 109 = .ok (.aload_n 0, 1) := by decide +kernel
theorem dX9_readsCommand_110 : decode cX9_readsCommand 110 = .ok (.bipush 102, 2) := by decide +kernel
theorem dX9_readsCommand_112 : decode cX9_readsCommand 112 = .ok (.invokevirtual 232, 3) := by decide +kernel
theorem dX9_readsCommand_115 : decode cX9_readsCommand 115 = .ok (.ifCond .eq 53, 3) := by decide +kernel
theorem dX9_readsCommand_118 : decode cX9_readsCommand 118 = .ok (.aload_n 0, 1) := by decide +kernel
theorem dX9_readsCommand_119 : decode cX9_readsCommand 119 = .ok (.bipush 108, 2) := by decide +kernel
theorem dX9_readsCommand_121 : decode cX9_readsCommand 121 = .ok (.invokevirtual 232, 3) := by decide +kernel
theorem dX9_readsCommand_124 : decode cX9_readsCommand 124 = .ok (.ifCond .eq 42, 3) := by decide +kernel
theorem dX9_readsCommand_127 : decode cX9_readsCommand 127 = .ok (.aload_n 0, 1) := by decide +kernel
theorem dX9_readsCommand_128 : decode cX9_readsCommand 128 = .ok (.bipush 105, 2) := by decide +kernel
theorem dX9_readsCommand_130 : decode cX9_readsCommand 130 = .ok (.invokevirtual 232, 3) := by decide +kernel
theorem dX9_readsCommand_133 : decode cX9_readsCommand 133 = .ok (.ifCond .eq 33, 3) := by decide +kernel
theorem dX9_readsCommand_136 : decode cX9_readsCommand 136 = .ok (.aload_n 0, 1) := by decide +kernel
theorem dX9_readsCommand_137 : decode cX9_readsCommand 137 = .ok (.bipush 112, 2) := by decide +kernel
theorem dX9_readsCommand_139 : decode cX9_readsCommand 139 = .ok (.invokevirtual 232, 3) := by decide +kernel
theorem dX9_readsCommand_142 : decode cX9_readsCommand 142 = .ok (.ifCond .eq 24, 3) := by decide +kernel
theorem dX9_readsCommand_145 : decode cX9_readsCommand 145 = .ok (.aload_n 0, 1) := by decide +kernel
theorem dX9_readsCommand_146 : decode cX9_readsCommand 146 = .ok (.bipush 32, 2) := by decide +kernel
theorem dX9_readsCommand_148 : decode cX9_readsCommand 148 = .ok (.invokevirtual 232, 3) := by decide +kernel
theorem dX9_readsCommand_151 : decode cX9_readsCommand 151 = .ok (.ifCond .eq 15, 3) := by decide +kernel
theorem dX9_readsCommand_154 : decode cX9_readsCommand 154 = .ok (.aload_n 0, 1) := by decide +kernel
theorem dX9_readsCommand_155 : decode cX9_readsCommand 155 = .ok (.iconst 0, 1) := by decide +kernel
theorem dX9_readsCommand_156 : decode cX9_readsCommand 156 = .ok (.invokevirtual 229, 3) := by decide +kernel
theorem dX9_readsCommand_159 : decode cX9_readsCommand 159 = .ok (.ifCond .eq 7, 3) := by decide +kernel
theorem dX9_readsCommand_162 : decode cX9_readsCommand 162 = .ok (.iconst 1, 1) := by decide +kernel
theorem dX9_readsCommand_163 : decode cX9_readsCommand 163 = .ok (.goto 4, 3) := by decide +kernel
theorem dX9_readsCommand_166 : decode cX9_readsCommand 166 = .ok (.iconst 0, 1) := by decide +kernel
theorem dX9_readsCommand_167 : decode cX9_readsCommand 167 = .ok (.ireturn, 1) := by decide +kernel
theorem dX9_readsCommand_168 : decode cX9_readsCommand 168 = .ok (.aload_n 0, 1) := by decide +kernel
theorem dX9_readsCommand_169 : decode cX9_readsCommand 169 = .ok (.bipush 116, 2) := by decide +kernel
theorem dX9_readsCommand_171 : decode cX9_readsCommand 171 = .ok (.invokevirtual 232, 3) := by decide +kernel
theorem dX9_readsCommand_174 : decode cX9_readsCommand 174 = .ok (.ifCond .eq 8, 3) := by decide +kernel
theorem dX9_readsCommand_177 : decode cX9_readsCommand 177 = .ok (.aload_n 0, 1) := by decide +kernel
theorem dX9_readsCommand_178 : decode cX9_readsCommand 178 = .ok (.invokevirtual 254, 3) := by decide +kernel
theorem dX9_readsCommand_181 : decode cX9_readsCommand 181 = .ok (.ireturn, 1) := by decide +kernel
theorem dX9_readsCommand_182 : decode cX9_readsCommand 182 = .ok (.aload_n 0, 1) := by decide +kernel
theorem dX9_readsCommand_183 : decode cX9_readsCommand 183 = .ok (.bipush 114, 2) := by decide +kernel
theorem dX9_readsCommand_185 : decode cX9_readsCommand 185 = .ok (.invokevirtual 232, 3) := by decide +kernel
theorem dX9_readsCommand_188 : decode cX9_readsCommand 188 = .ok (.ifCond .eq 8, 3) := by decide +kernel
theorem dX9_readsCommand_191 : decode cX9_readsCommand 191 = .ok (.aload_n 0, 1) := by decide +kernel
theorem dX9_readsCommand_192 : decode cX9_readsCommand 192 = .ok (.invokevirtual 257, 3) := by decide +kernel
theorem dX9_readsCommand_195 : decode cX9_readsCommand 195 = .ok (.ireturn, 1) := by decide +kernel
theorem dX9_readsCommand_196 : decode cX9_readsCommand 196 = .ok (.aload_n 0, 1) := by decide +kernel
theorem dX9_readsCommand_197 : decode cX9_readsCommand 197 = .ok (.bipush 108, 2) := by decide +kernel
theorem dX9_readsCommand_199 : decode cX9_readsCommand 199 = .ok (.invokevirtual 232, 3) := by decide +kernel
theorem dX9_readsCommand_202 : decode cX9_readsCommand 202 = .ok (.ifCond .eq 62, 3) := by decide +kernel
theorem dX9_readsCommand_205 : decode cX9_readsCommand 205 = .ok (.aload_n 0, 1) := by decide +kernel
theorem dX9_readsCommand_206 : decode cX9_readsCommand 206 = .ok (.bipush 105, 2) := by decide +kernel
theorem dX9_readsCommand_208 : decode cX9_readsCommand 208 = .ok (.invokevirtual 232, 3) := by decide +kernel
theorem dX9_readsCommand_211 : decode cX9_readsCommand 211 = .ok (.ifCond .eq 51, 3) := by decide +kernel
theorem dX9_readsCommand_214 : decode cX9_readsCommand 214 = .ok (.aload_n 0, 1) := by decide +kernel
theorem dX9_readsCommand_215 : decode cX9_readsCommand 215 = .ok (.bipush 109, 2) := by decide +kernel
theorem dX9_readsCommand_217 : decode cX9_readsCommand 217 = .ok (.invokevirtual 232, 3) := by decide +kernel
theorem dX9_readsCommand_220 : decode cX9_readsCommand 220 = .ok (.ifCond .eq 42, 3) := by decide +kernel
theorem dX9_readsCommand_223 : decode cX9_readsCommand 223 = .ok (.aload_n 0, 1) := by decide +kernel
theorem dX9_readsCommand_224 : decode cX9_readsCommand 224 = .ok (.bipush 105, 2) := by decide +kernel
theorem dX9_readsCommand_226 : decode cX9_readsCommand 226 = .ok (.invokevirtual 232, 3) := by decide +kernel
theorem dX9_readsCommand_229 : decode cX9_readsCommand 229 = .ok (.ifCond .eq 33, 3) := by decide +kernel
theorem dX9_readsCommand_232 : decode cX9_readsCommand 232 = .ok (.aload_n 0, 1) := by decide +kernel
theorem dX9_readsCommand_233 : decode cX9_readsCommand 233 = .ok (.bipush 116, 2) := by decide +kernel
theorem dX9_readsCommand_235 : decode cX9_readsCommand 235 = .ok (.invokevirtual 232, 3) := by decide +kernel
theorem dX9_readsCommand_238 : decode cX9_readsCommand 238 = .ok (.ifCond .eq 24, 3) := by decide +kernel
theorem dX9_readsCommand_241 : decode cX9_readsCommand 241 = .ok (.aload_n 0, 1) := by decide +kernel
theorem dX9_readsCommand_242 : decode cX9_readsCommand 242 = .ok (.bipush 32, 2) := by decide +kernel
theorem dX9_readsCommand_244 : decode cX9_readsCommand 244 = .ok (.invokevirtual 232, 3) := by decide +kernel
theorem dX9_readsCommand_247 : decode cX9_readsCommand 247 = .ok (.ifCond .eq 15, 3) := by decide +kernel
theorem dX9_readsCommand_250 : decode cX9_readsCommand 250 = .ok (.aload_n 0, 1) := by decide +kernel
theorem dX9_readsCommand_251 : decode cX9_readsCommand 251 = .ok (.iconst 0, 1) := by decide +kernel
theorem dX9_readsCommand_252 : decode cX9_readsCommand 252 = .ok (.invokevirtual 241, 3) := by decide +kernel
theorem dX9_readsCommand_255 : decode cX9_readsCommand 255 = .ok (.ifCond .eq 7, 3) := by decide +kernel
theorem dX9_readsCommand_258 : decode cX9_readsCommand 258 = .ok (.iconst 1, 1) := by decide +kernel
theorem dX9_readsCommand_259 : decode cX9_readsCommand 259 = .ok (.goto 4, 3) := by decide +kernel
theorem dX9_readsCommand_262 : decode cX9_readsCommand 262 = .ok (.iconst 0, 1) := by decide +kernel
theorem dX9_readsCommand_263 : decode cX9_readsCommand 263 = .ok (.ireturn, 1) := by decide +kernel
theorem dX9_readsCommand_264 : decode cX9_readsCommand 264 = .ok (.aload_n 0, 1) := by decide +kernel
theorem dX9_readsCommand_265 : decode cX9_readsCommand 265 = .ok (.bipush 119, 2) := by decide +kernel
theorem dX9_readsCommand_267 : decode cX9_readsCommand 267 = .ok (.invokevirtual 232, 3) := by decide +kernel
theorem dX9_readsCommand_270 : decode cX9_readsCommand 270 = .ok (.ifCond .eq 36, 3) := by decide +kernel
theorem dX9_readsCommand_273 : decode cX9_readsCommand 273 = .ok (.aload_n 0, 1) := by decide +kernel
theorem dX9_readsCommand_274 : decode cX9_readsCommand 274 = .ok (.bipush 97, 2) := by decide +kernel
theorem dX9_readsCommand_276 : decode cX9_readsCommand 276 = .ok (.invokevirtual 232, 3) := by decide +kernel
theorem dX9_readsCommand_279 : decode cX9_readsCommand 279 = .ok (.ifCond .eq 25, 3) := by decide +kernel
theorem dX9_readsCommand_282 : decode cX9_readsCommand 282 = .ok (.aload_n 0, 1) := by decide +kernel
theorem dX9_readsCommand_283 : decode cX9_readsCommand 283 = .ok (.bipush 118, 2) := by decide +kernel
theorem dX9_readsCommand_285 : decode cX9_readsCommand 285 = .ok (.invokevirtual 232, 3) := by decide +kernel
theorem dX9_readsCommand_288 : decode cX9_readsCommand 288 = .ok (.ifCond .eq 16, 3) := by decide +kernel
theorem dX9_readsCommand_291 : decode cX9_readsCommand 291 = .ok (.aload_n 0, 1) := by decide +kernel
theorem dX9_readsCommand_292 : decode cX9_readsCommand 292 = .ok (.bipush 101, 2) := by decide +kernel
theorem dX9_readsCommand_294 : decode cX9_readsCommand 294 = .ok (.invokevirtual 232, 3) := by decide +kernel
theorem dX9_readsCommand_297 : decode cX9_readsCommand 297 = .ok (.ifCond .eq 7, 3) := by decide +kernel
theorem dX9_readsCommand_300 : decode cX9_readsCommand 300 = .ok (.iconst 1, 1) := by decide +kernel
theorem dX9_readsCommand_301 : decode cX9_readsCommand 301 = .ok (.goto 4, 3) := by decide +kernel
theorem dX9_readsCommand_304 : decode cX9_readsCommand 304 = .ok (.iconst 0, 1) := by decide +kernel
theorem dX9_readsCommand_305 : decode cX9_readsCommand 305 = .ok (.ireturn, 1) := by decide +kernel
theorem dX9_readsCommand_306 : decode cX9_readsCommand 306 = .ok (.aload_n 0, 1) := by decide +kernel
theorem dX9_readsCommand_307 : decode cX9_readsCommand 307 = .ok (.bipush 98, 2) := by decide +kernel
theorem dX9_readsCommand_309 : decode cX9_readsCommand 309 = .ok (.invokevirtual 232, 3) := by decide +kernel
theorem dX9_readsCommand_312 : decode cX9_readsCommand 312 = .ok (.ifCond .eq 14, 3) := by decide +kernel
theorem dX9_readsCommand_315 : decode cX9_readsCommand 315 = .ok (.aload_n 0, 1) := by decide +kernel
theorem dX9_readsCommand_316 : decode cX9_readsCommand 316 = .ok (.invokevirtual 260, 3) := by decide +kernel
theorem dX9_readsCommand_319 : decode cX9_readsCommand 319 = .ok (.ifCond .eq 7, 3) := by decide +kernel
theorem dX9_readsCommand_322 : decode cX9_readsCommand 322 = .ok (.iconst 1, 1) := by decide +kernel
theorem dX9_readsCommand_323 : decode cX9_readsCommand 323 = .ok (.goto 4, 3) := by decide +kernel
theorem dX9_readsCommand_326 : decode cX9_readsCommand 326 = .ok (.iconst 0, 1) := by decide +kernel
theorem dX9_readsCommand_327 : decode cX9_readsCommand 327 = .ok (.ireturn, 1) := by decide +kernel
theorem dX9_readsAll_0 : decode cX9_readsAll 0 = .ok (.aload_n 0, 1) := by decide +kernel
theorem dX9_readsAll_1 : decode cX9_readsAll 1 = .ok (.iconst 0, 1) := by decide +kernel
theorem dX9_readsAll_2 : decode cX9_readsAll 2 = .ok (.putfield 223, 3) := by decide +kernel
theorem dX9_readsAll_5 : decode cX9_readsAll 5 = .ok (.iconst 1, 1) := by decide +kernel
theorem dX9_readsAll_6 : decode cX9_readsAll 6 = .ok (.istore_n 1, 1) := by decide +kernel
theorem dX9_readsAll_7 : decode cX9_readsAll 7 = .ok (.iload_n 1, 1) := by decide +kernel
theorem dX9_readsAll_8 : decode cX9_readsAll 8 = .ok (.ifCond .eq 22, 3) := by decide +kernel
theorem dX9_readsAll_11 : decode cX9_readsAll 11 = .ok (.aload_n 0, 1) := by decide +kernel
theorem dX9_readsAll_12 : decode cX9_readsAll 12 = .ok (.invokevirtual 263, 3) := by decide +kernel
theorem dX9_readsAll_15 : decode cX9_readsAll 15 = .ok (.ifCond .ne 5, 3) := by decide +kernel
theorem dX9_readsAll_18 : decode cX9_readsAll 18 = .ok (.iconst 0, 1) := by decide +kernel
theorem dX9_readsAll_19 : decode cX9_readsAll 19 = .ok (.ireturn, 1) := by decide +kernel
theorem dX9_readsAll_20 : decode cX9_readsAll 20 = .ok (.aload_n 0, 1) := by decide +kernel
theorem dX9_readsAll_21 : decode cX9_readsAll 21 = .ok (.bipush 59, 2) := by decide +kernel
theorem dX9_readsAll_23 : decode cX9_readsAll 23 = .ok (.invokevirtual 232, 3) := by decide +kernel
theorem dX9_readsAll_26 : decode cX9_readsAll 26 = .ok (.istore_n 1, 1) := by decide +kernel
theorem dX9_readsAll_27 : decode cX9_readsAll 27 = .ok (.goto (-20), 3) := by decide +kernel
theorem dX9_readsAll_30 : decode cX9_readsAll 30 = .ok (.aload_n 0, 1) := by decide +kernel
theorem dX9_readsAll_31 : decode cX9_readsAll 31 = .ok (.getfield 223, 3) := by decide +kernel
theorem dX9_readsAll_34 : decode cX9_readsAll 34 = .ok (.aload_n 0, 1) := by decide +kernel
theorem dX9_readsAll_35 : decode cX9_readsAll 35 = .ok (.getfield 220, 3) := by decide +kernel
theorem dX9_readsAll_38 : decode cX9_readsAll 38 = .ok (.if_icmp .ne 7, 3) := by decide +kernel
theorem dX9_readsAll_41 : decode cX9_readsAll 41 = .ok (.iconst 1, 1) := by decide +kernel
theorem dX9_readsAll_42 : decode cX9_readsAll 42 = .ok (.goto 4, 3) := by decide +kernel
theorem dX9_readsAll_45 : decode cX9_readsAll 45 = .ok (.iconst 0, 1) := by decide +kernel
theorem dX9_readsAll_46 : decode cX9_readsAll 46 = .ok (.ireturn, 1) := by decide +kernel
theorem dX9_notNow_0 : decode cX9_notNow 0 = .ok (.aload_n 0, 1) := by decide +kernel
theorem dX9_notNow_1 : decode cX9_notNow 1 = .ok (.getfield 42, 3) := by decide +kernel
theorem dX9_notNow_4 : decode cX9_notNow 4 = .ok (.iconst 0, 1) := by decide +kernel
theorem dX9_notNow_5 : decode cX9_notNow 5 = .ok (.iaload, 1) := by decide +kernel
theorem dX9_notNow_6 : decode cX9_notNow 6 = .ok (.istore_n 1, 1) := by decide +kernel
theorem dX9_notNow_7 : decode cX9_notNow 7 = .ok (.aload_n 0, 1) := by decide +kernel
theorem dX9_notNow_8 : decode cX9_notNow 8 = .ok (.getfield 42, 3) := by decide +kernel
theorem dX9_notNow_11 : decode cX9_notNow 11 = .ok (.iconst 1, 1) := by decide +kernel
theorem dX9_notNow_12 : decode cX9_notNow 12 = .ok (.iaload, 1) := by decide +kernel
theorem dX9_notNow_13 : decode cX9_notNow 13 = .ok (.istore_n 2, 1) := by decide +kernel
theorem dX9_notNow_14 : decode cX9_notNow 14 = .ok (.aload_n 0, 1) := by decide +kernel
theorem dX9_notNow_15 : decode cX9_notNow 15 = .ok (.getfield 238, 3) := by decide +kernel
theorem dX9_notNow_18 : decode cX9_notNow 18 = .ok (.tableswitch 161 97 116 #[94, 156, 161, 107, 146, 107, 161, 161, 161, 161, 161, 151, 132, 113, 161, 161, 161, 139, 161, 107], 94) := by decide +kernel
theorem dX9_notNow_112 : decode cX9_notNow 112 = .ok (.aload_n 0, 1) := by decide +kernel
theorem dX9_notNow_113 : decode cX9_notNow 113 = .ok (.iload_n 1, 1) := by decide +kernel
theorem dX9_notNow_114 : decode cX9_notNow 114 = .ok (.iload_n 2, 1) := by decide +kernel
theorem dX9_notNow_115 : decode cX9_notNow 115 = .ok (.aload_n 0, 1) := by decide +kernel
theorem dX9_notNow_116 : decode cX9_notNow 116 = .ok (.getfield 42, 3) := by decide +kernel
theorem dX9_notNow_119 : decode cX9_notNow 119 = .ok (.iconst 2, 1) := by decide +kernel
theorem dX9_notNow_120 : decode cX9_notNow 120 = .ok (.iaload, 1) := by decide +kernel
theorem dX9_notNow_121 : decode cX9_notNow 121 = .ok (.invokevirtual 84, 3) := by decide +kernel
theorem dX9_notNow_124 : decode cX9_notNow 124 = .ok (.ireturn, 1) := by decide +kernel
theorem dX9_notNow_125 : decode cX9_notNow 125 = .ok (.aload_n 0, 1) := by decide +kernel
theorem dX9_notNow_126 : decode cX9_notNow 126 = .ok (.iload_n 1, 1) := by decide +kernel
theorem dX9_notNow_127 : decode cX9_notNow 127 = .ok (.invokevirtual 266, 3) := by decide +kernel
theorem dX9_notNow_130 : decode cX9_notNow 130 = .ok (.ireturn, 1) := by decide +kernel
theorem dX9_notNow_131 : decode cX9_notNow 131 = .ok (.aload_n 0, 1) := by decide +kernel
theorem dX9_notNow_132 : decode cX9_notNow 132 = .ok (.iload_n 1, 1) := by decide +kernel
theorem dX9_notNow_133 : decode cX9_notNow 133 = .ok (.iload_n 2, 1) := by decide +kernel
theorem dX9_notNow_134 : decode cX9_notNow 134 = .ok (.aload_n 0, 1) := by decide +kernel
theorem dX9_notNow_135 : decode cX9_notNow 135 = .ok (.getfield 42, 3) := by decide +kernel
theorem dX9_notNow_138 : decode cX9_notNow 138 = .ok (.iconst 2, 1) := by decide +kernel
theorem dX9_notNow_139 : decode cX9_notNow 139 = .ok (.iaload, 1) := by decide +kernel
theorem dX9_notNow_140 : decode cX9_notNow 140 = .ok (.aload_n 0, 1) := by decide +kernel
theorem dX9_notNow_141 : decode cX9_notNow 141 = .ok (.getfield 42, 3) := by decide +kernel
theorem dX9_notNow_144 : decode cX9_notNow 144 = .ok (.iconst 3, 1) := by decide +kernel
theorem dX9_notNow_145 : decode cX9_notNow 145 = .ok (.iaload, 1) := by decide +kernel
theorem dX9_notNow_146 : decode cX9_notNow 146 = .ok (.invokevirtual 106, 3) := by decide +kernel
theorem dX9_notNow_149 : decode cX9_notNow 149 = .ok (.ireturn, 1) := by decide +kernel
theorem dX9_notNow_150 : decode cX9_notNow 150 = .ok (.aload_n 0, 1) := by decide +kernel
theorem dX9_notNow_151 : decode cX9_notNow 151 = .ok (.iload_n 1, 1) := by decide +kernel
theorem dX9_notNow_152 : decode cX9_notNow 152 = .ok (.iload_n 2, 1) := by decide +kernel
theorem dX9_notNow_153 : decode cX9_notNow 153 = .ok (.invokevirtual 117, 3) := by decide +kernel
theorem dX9_notNow_156 : decode cX9_notNow 156 = .ok (.ireturn, 1) := by decide +kernel
theorem dX9_notNow_157 : decode cX9_notNow 157 = .ok (.aload_n 0, 1) := by decide +kernel
theorem dX9_notNow_158 : decode cX9_notNow 158 = .ok (.iload_n 1, 1) := by decide +kernel
theorem dX9_notNow_159 : decode cX9_notNow 159 = .ok (.iload_n 2, 1) := by decide +kernel
theorem dX9_notNow_160 : decode cX9_notNow 160 = .ok (.invokevirtual 129, 3) := by decide +kernel
theorem dX9_notNow_163 : decode cX9_notNow 163 = .ok (.ireturn, 1) := by decide +kernel
theorem dX9_notNow_164 : decode cX9_notNow 164 = .ok (.iload_n 1, 1) := by decide +kernel
theorem dX9_notNow_165 : decode cX9_notNow 165 = .ok (.invokestatic 135, 3) := by decide +kernel
theorem dX9_notNow_168 : decode cX9_notNow 168 = .ok (.ireturn, 1) := by decide +kernel
theorem dX9_notNow_169 : decode cX9_notNow 169 = .ok (.iload_n 1, 1) := by decide +kernel
theorem dX9_notNow_170 : decode cX9_notNow 170 = .ok (.invokestatic 141, 3) := by decide +kernel
theorem dX9_notNow_173 : decode cX9_notNow 173 = .ok (.ireturn, 1) := by decide +kernel
theorem dX9_notNow_174 : decode cX9_notNow 174 = .ok (.iload_n 1, 1) := by decide +kernel
theorem dX9_notNow_175 : decode cX9_notNow 175 = .ok (.invokestatic 174, 3) := by decide +kernel
theorem dX9_notNow_178 : decode cX9_notNow 178 = .ok (.ireturn, 1) := by decide +kernel
theorem dX9_notNow_179 : decode cX9_notNow 179 = .ok (.iconst 0, 1) := by decide +kernel
theorem dX9_notNow_180 : decode cX9_notNow 180 = .ok (.ireturn, 1) := by decide +kernel
theorem dX9_doesNow_0 : decode cX9_doesNow 0 = .ok (.aload_n 0, 1) := by decide +kernel
theorem dX9_doesNow_1 : decode cX9_doesNow 1 = .ok (.getfield 42, 3) := by decide +kernel
theorem dX9_doesNow_4 : decode cX9_doesNow 4 = .ok (.iconst 0, 1) := by decide +kernel
theorem dX9_doesNow_5 : decode cX9_doesNow 5 = .ok (.iaload, 1) := by decide +kernel
theorem dX9_doesNow_6 : decode cX9_doesNow 6 = .ok (.istore_n 1, 1) := by decide +kernel
theorem dX9_doesNow_7 : decode cX9_doesNow 7 = .ok (.aload_n 0, 1) := by decide +kernel
theorem dX9_doesNow_8 : decode cX9_doesNow 8 = .ok (.getfield 42, 3) := by decide +kernel
theorem dX9_doesNow_11 : decode cX9_doesNow 11 = .ok (.iconst 1, 1) := by decide +kernel
theorem dX9_doesNow_12 : decode cX9_doesNow 12 = .ok (.iaload, 1) := by decide +kernel
theorem dX9_doesNow_13 : decode cX9_doesNow 13 = .ok (.istore_n 2, 1) := by decide +kernel
theorem dX9_doesNow_14 : decode cX9_doesNow 14 = .ok (.aload_n 0, 1) := by decide +kernel
theorem dX9_doesNow_15 : decode cX9_doesNow 15 = .ok (.getfield 238, 3) := by decide +kernel
theorem dX9_doesNow_18 : decode cX9_doesNow 18 = .ok (.tableswitch 201 97 119 #[106, 201, 201, 119, 176, 157, 201, 201, 201, 201, 201, 183, 144, 125, 201, 201, 201, 169, 201, 163, 201, 201, 190], 106) := by decide +kernel
theorem dX9_doesNow_124 : decode cX9_doesNow 124 = .ok (.aload_n 0, 1) := by decide +kernel
theorem dX9_doesNow_125 : decode cX9_doesNow 125 = .ok (.iload_n 1, 1) := by decide +kernel
theorem dX9_doesNow_126 : decode cX9_doesNow 126 = .ok (.iload_n 2, 1) := by decide +kernel
theorem dX9_doesNow_127 : decode cX9_doesNow 127 = .ok (.aload_n 0, 1) := by decide +kernel
theorem dX9_doesNow_128 : decode cX9_doesNow 128 = .ok (.getfield 42, 3) := by decide +kernel
theorem dX9_doesNow_131 : decode cX9_doesNow 131 = .ok (.iconst 2, 1) := by decide +kernel
theorem dX9_doesNow_132 : decode cX9_doesNow 132 = .ok (.iaload, 1) := by decide +kernel
theorem dX9_doesNow_133 : decode cX9_doesNow 133 = .ok (.invokevirtual 93, 3) := by decide +kernel
theorem dX9_doesNow_136 : decode cX9_doesNow 136 = .ok (.ireturn, 1) := by decide +kernel
theorem dX9_doesNow_137 : decode cX9_doesNow 137 = .ok (.aload_n 0, 1) := by decide +kernel
theorem dX9_doesNow_138 : decode cX9_doesNow 138 = .ok (.iload_n 1, 1) := by decide +kernel
theorem dX9_doesNow_139 : decode cX9_doesNow 139 = .ok (.invokevirtual 96, 3) := by decide +kernel
theorem dX9_doesNow_142 : decode cX9_doesNow 142 = .ok (.ireturn, 1) := by decide +kernel
theorem dX9_doesNow_143 : decode cX9_doesNow 143 = .ok (.aload_n 0, 1) := by decide +kernel
theorem dX9_doesNow_144 : decode cX9_doesNow 144 = .ok (.iload_n 1, 1) := by decide +kernel
theorem dX9_doesNow_145 : decode cX9_doesNow 145 = .ok (.iload_n 2, 1) := by decide +kernel
theorem dX9_doesNow_146 : decode cX9_doesNow 146 = .ok (.aload_n 0, 1) := by decide +kernel
theorem dX9_doesNow_147 : decode cX9_doesNow 147 = .ok (.getfield 42, 3) := by decide +kernel
theorem dX9_doesNow_150 : decode cX9_doesNow 150 = .ok (.iconst 2, 1) := by decide +kernel
theorem dX9_doesNow_151 : decode cX9_doesNow 151 = .ok (.iaload, 1) := by decide +kernel
theorem dX9_doesNow_152 : decode cX9_doesNow 152 = .ok (.aload_n 0, 1) := by decide +kernel
theorem dX9_doesNow_153 : decode cX9_doesNow 153 = .ok (.getfield 42, 3) := by decide +kernel
theorem dX9_doesNow_156 : decode cX9_doesNow 156 = .ok (.iconst 3, 1) := by decide +kernel
theorem dX9_doesNow_157 : decode cX9_doesNow 157 = .ok (.iaload, 1) := by decide +kernel
theorem dX9_doesNow_158 : decode cX9_doesNow 158 = .ok (.invokevirtual 110, 3) := by decide +kernel
theorem dX9_doesNow_161 : decode cX9_doesNow 161 = .ok (.ireturn, 1) := by decide +kernel
theorem dX9_doesNow_162 : decode cX9_doesNow 162 = .ok (.aload_n 0, 1) := by decide +kernel
theorem dX9_doesNow_163 : decode cX9_doesNow 163 = .ok (.iload_n 1, 1) := by decide +kernel
theorem dX9_doesNow_164 : decode cX9_doesNow 164 = .ok (.iload_n 2, 1) := by decide +kernel
theorem dX9_doesNow_165 : decode cX9_doesNow 165 = .ok (.aload_n 0, 1) := by decide +kernel
theorem dX9_doesNow_166 : decode cX9_doesNow 166 = .ok (.getfield 42, 3) := by decide +kernel
theorem dX9_doesNow_169 : decode cX9_doesNow 169 = .ok (.iconst 2, 1) := by decide +kernel
theorem dX9_doesNow_170 : decode cX9_doesNow 170 = .ok (.iaload, 1) := by decide +kernel
theorem dX9_doesNow_171 : decode cX9_doesNow 171 = .ok (.invokevirtual 120, 3) := by decide +kernel
theorem dX9_doesNow_174 : decode cX9_doesNow 174 = .ok (.ireturn, 1) := by decide +kernel
theorem dX9_doesNow_175 : decode cX9_doesNow 175 = .ok (.aload_n 0, 1) := by decide +kernel
theorem dX9_doesNow_176 : decode cX9_doesNow 176 = .ok (.iload_n 1, 1) := by decide +kernel
theorem dX9_doesNow_177 : decode cX9_doesNow 177 = .ok (.invokevirtual 123, 3) := by decide +kernel
theorem dX9_doesNow_180 : decode cX9_doesNow 180 = .ok (.ireturn, 1) := by decide +kernel
theorem dX9_doesNow_181 : decode cX9_doesNow 181 = .ok (.aload_n 0, 1) := by decide +kernel
theorem dX9_doesNow_182 : decode cX9_doesNow 182 = .ok (.iload_n 1, 1) := by decide +kernel
theorem dX9_doesNow_183 : decode cX9_doesNow 183 = .ok (.invokevirtual 126, 3) := by decide +kernel
theorem dX9_doesNow_186 : decode cX9_doesNow 186 = .ok (.ireturn, 1) := by decide +kernel
theorem dX9_doesNow_187 : decode cX9_doesNow 187 = .ok (.aload_n 0, 1) := by decide +kernel
theorem dX9_doesNow_188 : decode cX9_doesNow 188 = .ok (.iload_n 1, 1) := by decide +kernel
theorem dX9_doesNow_189 : decode cX9_doesNow 189 = .ok (.iload_n 2, 1) := by decide +kernel
theorem dX9_doesNow_190 : decode cX9_doesNow 190 = .ok (.invokevirtual 132, 3) := by decide +kernel
theorem dX9_doesNow_193 : decode cX9_doesNow 193 = .ok (.ireturn, 1) := by decide +kernel
theorem dX9_doesNow_194 : decode cX9_doesNow 194 = .ok (.aload_n 0, 1) := by decide +kernel
theorem dX9_doesNow_195 : decode cX9_doesNow 195 = .ok (.iconst 2, 1) := by decide +kernel
theorem dX9_doesNow_196 : decode cX9_doesNow 196 = .ok (.iload_n 1, 1) := by decide +kernel
theorem dX9_doesNow_197 : decode cX9_doesNow 197 = .ok (.invokevirtual 138, 3) := by decide +kernel
theorem dX9_doesNow_200 : decode cX9_doesNow 200 = .ok (.ireturn, 1) := by decide +kernel
theorem dX9_doesNow_201 : decode cX9_doesNow 201 = .ok (.aload_n 0, 1) := by decide +kernel
theorem dX9_doesNow_202 : decode cX9_doesNow 202 = .ok (.iconst 3, 1) := by decide +kernel
theorem dX9_doesNow_203 : decode cX9_doesNow 203 = .ok (.iload_n 1, 1) := by decide +kernel
theorem dX9_doesNow_204 : decode cX9_doesNow 204 = .ok (.invokevirtual 138, 3) := by decide +kernel
theorem dX9_doesNow_207 : decode cX9_doesNow 207 = .ok (.ireturn, 1) := by decide +kernel
theorem dX9_doesNow_208 : decode cX9_doesNow 208 = .ok (.aload_n 0, 1) := by decide +kernel
theorem dX9_doesNow_209 : decode cX9_doesNow 209 = .ok (.aload_n 0, 1) := by decide +kernel
theorem dX9_doesNow_210 : decode cX9_doesNow 210 = .ok (.getfield 13, 3) := by decide +kernel
theorem dX9_doesNow_213 : decode cX9_doesNow 213 = .ok (.iconst 2, 1) := by decide +kernel
theorem dX9_doesNow_214 : decode cX9_doesNow 214 = .ok (.iaload, 1) := by decide +kernel
theorem dX9_doesNow_215 : decode cX9_doesNow 215 = .ok (.invokevirtual 171, 3) := by decide +kernel
theorem dX9_doesNow_218 : decode cX9_doesNow 218 = .ok (.ireturn, 1) := by decide +kernel
theorem dX9_doesNow_219 : decode cX9_doesNow 219 = .ok (.aload_n 0, 1) := by decide +kernel
theorem dX9_doesNow_220 : decode cX9_doesNow 220 = .ok (.iload_n 1, 1) := by decide +kernel
theorem dX9_doesNow_221 : decode cX9_doesNow 221 = .ok (.invokevirtual 171, 3) := by decide +kernel
theorem dX9_doesNow_224 : decode cX9_doesNow 224 = .ok (.ireturn, 1) := by decide +kernel
theorem dX9_doesAll_0 : decode cX9_doesAll 0 = .ok (.aload_n 0, 1) := by decide +kernel
theorem dX9_doesAll_1 : decode cX9_doesAll 1 = .ok (.iconst 0, 1) := by decide +kernel
theorem dX9_doesAll_2 : decode cX9_doesAll 2 = .ok (.putfield 269, 3) := by decide +kernel
theorem dX9_doesAll_5 : decode cX9_doesAll 5 = .ok (.aload_n 0, 1) := by decide +kernel
theorem dX9_doesAll_6 : decode cX9_doesAll 6 = .ok (.iconst 0, 1) := by decide +kernel
theorem dX9_doesAll_7 : decode cX9_doesAll 7 = .ok (.putfield 223, 3) := by decide +kernel
theorem dX9_doesAll_10 : decode cX9_doesAll 10 = .ok (.iconst 1, 1) := by decide +kernel
theorem dX9_doesAll_11 : decode cX9_doesAll 11 = .ok (.istore_n 1, 1) := by decide +kernel
theorem dX9_doesAll_12 : decode cX9_doesAll 12 = .ok (.iload_n 1, 1) := by decide +kernel
theorem dX9_doesAll_13 : decode cX9_doesAll 13 = .ok (.ifCond .eq 42, 3) := by decide +kernel
theorem dX9_doesAll_16 : decode cX9_doesAll 16 = .ok (.aload_n 0, 1) := by decide +kernel
theorem dX9_doesAll_17 : decode cX9_doesAll 17 = .ok (.invokevirtual 263, 3) := by decide +kernel
theorem dX9_doesAll_20 : decode cX9_doesAll 20 = .ok (.pop, 1) := by decide +kernel
theorem dX9_doesAll_21 : decode cX9_doesAll 21 = .ok (.aload_n 0, 1) := by decide +kernel
theorem dX9_doesAll_22 : decode cX9_doesAll 22 = .ok (.invokevirtual 272, 3) := by decide +kernel
theorem dX9_doesAll_25 : decode cX9_doesAll 25 = .ok (.ifCond .eq 5, 3) := by decide +kernel
theorem dX9_doesAll_28 : decode cX9_doesAll 28 = .ok (.iconst 0, 1) := by decide +kernel
theorem dX9_doesAll_29 : decode cX9_doesAll 29 = .ok (.ireturn, 1) := by decide +kernel
theorem dX9_doesAll_30 : decode cX9_doesAll 30 = .ok (.aload_n 0, 1) := by decide +kernel
theorem dX9_doesAll_31 : decode cX9_doesAll 31 = .ok (.invokevirtual 275, 3) := by decide +kernel
theorem dX9_doesAll_34 : decode cX9_doesAll 34 = .ok (.pop, 1) := by decide +kernel
theorem dX9_doesAll_35 : decode cX9_doesAll 35 = .ok (.aload_n 0, 1) := by decide +kernel
theorem dX9_doesAll_36 : decode cX9_doesAll 36 = .ok (.dup, 1) := by decide +kernel
theorem dX9_doesAll_37 : decode cX9_doesAll 37 = .ok (.getfield 269, 3) := by decide +kernel
theorem dX9_doesAll_40 : decode cX9_doesAll 40 = .ok (.iconst 1, 1) := by decide +kernel
theorem dX9_doesAll_41 : decode cX9_doesAll 41 = .ok (.iadd, 1) := by decide +kernel
theorem dX9_doesAll_42 : decode cX9_doesAll 42 = .ok (.putfield 269, 3) := by decide +kernel
theorem dX9_doesAll_45 : decode cX9_doesAll 45 = .ok (.aload_n 0, 1) := by decide +kernel
theorem dX9_doesAll_46 : decode cX9_doesAll 46 = .ok (.bipush 59, 2) := by decide +kernel
theorem dX9_doesAll_48 : decode cX9_doesAll 48 = .ok (.invokevirtual 232, 3) := by decide +kernel
theorem dX9_doesAll_51 : decode cX9_doesAll 51 = .ok (.istore_n 1, 1) := by decide +kernel
theorem dX9_doesAll_52 : decode cX9_doesAll 52 = .ok (.goto (-40), 3) := by decide +kernel
theorem dX9_doesAll_55 : decode cX9_doesAll 55 = .ok (.iconst 1, 1) := by decide +kernel
theorem dX9_doesAll_56 : decode cX9_doesAll 56 = .ok (.ireturn, 1) := by decide +kernel
theorem dX9_runScript_0 : decode cX9_runScript 0 = .ok (.aload_n 0, 1) := by decide +kernel
theorem dX9_runScript_1 : decode cX9_runScript 1 = .ok (.iconst 0, 1) := by decide +kernel
theorem dX9_runScript_2 : decode cX9_runScript 2 = .ok (.putfield 1, 3) := by decide +kernel
theorem dX9_runScript_5 : decode cX9_runScript 5 = .ok (.aload_n 0, 1) := by decide +kernel
theorem dX9_runScript_6 : decode cX9_runScript 6 = .ok (.invokevirtual 278, 3) := by decide +kernel
theorem dX9_runScript_9 : decode cX9_runScript 9 = .ok (.ifCond .ne 22, 3) := by decide +kernel
theorem dX9_runScript_12 : decode cX9_runScript 12 = .ok (.aload_n 0, 1) := by decide +kernel
theorem dX9_runScript_13 : decode cX9_runScript 13 = .ok (.aload_n 0, 1) := by decide +kernel
theorem dX9_runScript_14 : decode cX9_runScript 14 = .ok (.getfield 223, 3) := by decide +kernel
theorem dX9_runScript_17 : decode cX9_runScript 17 = .ok (.putfield 36, 3) := by decide +kernel
theorem dX9_runScript_20 : decode cX9_runScript 20 = .ok (.aload_n 0, 1) := by decide +kernel
theorem dX9_runScript_21 : decode cX9_runScript 21 = .ok (.iconst 0, 1) := by decide +kernel
theorem dX9_runScript_22 : decode cX9_runScript 22 = .ok (.putfield 220, 3) := by decide +kernel
theorem dX9_runScript_25 : decode cX9_runScript 25 = .ok (.aload_n 0, 1) := by decide +kernel
theorem dX9_runScript_26 : decode cX9_runScript 26 = .ok (.iconst 1, 1) := by decide +kernel
theorem dX9_runScript_27 : decode cX9_runScript 27 = .ok (.invokevirtual 87, 3) := by decide +kernel
theorem dX9_runScript_30 : decode cX9_runScript 30 = .ok (.ireturn, 1) := by decide +kernel
theorem dX9_runScript_31 : decode cX9_runScript 31 = .ok (.aload_n 0, 1) := by decide +kernel
theorem dX9_runScript_32 : decode cX9_runScript 32 = .ok (.invokevirtual 51, 3) := by decide +kernel
theorem dX9_runScript_35 : decode cX9_runScript 35 = .ok (.aload_n 0, 1) := by decide +kernel
theorem dX9_runScript_36 : decode cX9_runScript 36 = .ok (.invokevirtual 281, 3) := by decide +kernel
theorem dX9_runScript_39 : decode cX9_runScript 39 = .ok (.istore_n 1, 1) := by decide +kernel
theorem dX9_runScript_40 : decode cX9_runScript 40 = .ok (.aload_n 0, 1) := by decide +kernel
theorem dX9_runScript_41 : decode cX9_runScript 41 = .ok (.iconst 0, 1) := by decide +kernel
theorem dX9_runScript_42 : decode cX9_runScript 42 = .ok (.putfield 220, 3) := by decide +kernel
theorem dX9_runScript_45 : decode cX9_runScript 45 = .ok (.iload_n 1, 1) := by decide +kernel
theorem dX9_runScript_46 : decode cX9_runScript 46 = .ok (.ifCond .eq 12, 3) := by decide +kernel
theorem dX9_runScript_49 : decode cX9_runScript 49 = .ok (.aload_n 0, 1) := by decide +kernel
theorem dX9_runScript_50 : decode cX9_runScript 50 = .ok (.invokevirtual 54, 3) := by decide +kernel
theorem dX9_runScript_53 : decode cX9_runScript 53 = .ok (.aload_n 0, 1) := by decide +kernel
theorem dX9_runScript_54 : decode cX9_runScript 54 = .ok (.getfield 269, 3) := by decide +kernel
theorem dX9_runScript_57 : decode cX9_runScript 57 = .ok (.ireturn, 1) := by decide +kernel
theorem dX9_runScript_58 : decode cX9_runScript 58 = .ok (.aload_n 0, 1) := by decide +kernel
theorem dX9_runScript_59 : decode cX9_runScript 59 = .ok (.invokevirtual 284, 3) := by decide +kernel
theorem dX9_runScript_62 : decode cX9_runScript 62 = .ok (.aload_n 0, 1) := by decide +kernel
theorem dX9_runScript_63 : decode cX9_runScript 63 = .ok (.aload_n 0, 1) := by decide +kernel
theorem dX9_runScript_64 : decode cX9_runScript 64 = .ok (.getfield 269, 3) := by decide +kernel
theorem dX9_runScript_67 : decode cX9_runScript 67 = .ok (.putfield 39, 3) := by decide +kernel
theorem dX9_runScript_70 : decode cX9_runScript 70 = .ok (.aload_n 0, 1) := by decide +kernel
theorem dX9_runScript_71 : decode cX9_runScript 71 = .ok (.iconst 2, 1) := by decide +kernel
theorem dX9_runScript_72 : decode cX9_runScript 72 = .ok (.invokevirtual 87, 3) := by decide +kernel
theorem dX9_runScript_75 : decode cX9_runScript 75 = .ok (.ireturn, 1) := by decide +kernel
theorem dX9_errorPosition_0 : decode cX9_errorPosition 0 = .ok (.aload_n 0, 1) := by decide +kernel
theorem dX9_errorPosition_1 : decode cX9_errorPosition 1 = .ok (.iconst 0, 1) := by decide +kernel
theorem dX9_errorPosition_2 : decode cX9_errorPosition 2 = .ok (.putfield 1, 3) := by decide +kernel
theorem dX9_errorPosition_5 : decode cX9_errorPosition 5 = .ok (.aload_n 0, 1) := by decide +kernel
theorem dX9_errorPosition_6 : decode cX9_errorPosition 6 = .ok (.getfield 36, 3) := by decide +kernel
theorem dX9_errorPosition_9 : decode cX9_errorPosition 9 = .ok (.ifCond .ge 11, 3) := by decide +kernel
theorem dX9_errorPosition_12 : decode cX9_errorPosition 12 = .ok (.aload_n 0, 1) := by decide +kernel
theorem dX9_errorPosition_13 : decode cX9_errorPosition 13 = .ok (.iconst 1, 1) := by decide +kernel
theorem dX9_errorPosition_14 : decode cX9_errorPosition 14 = .ok (.invokevirtual 87, 3) := by decide +kernel
theorem dX9_errorPosition_17 : decode cX9_errorPosition 17 = .ok (.goto 7, 3) := by decide +kernel
theorem dX9_errorPosition_20 : decode cX9_errorPosition 20 = .ok (.aload_n 0, 1) := by decide +kernel
theorem dX9_errorPosition_21 : decode cX9_errorPosition 21 = .ok (.getfield 36, 3) := by decide +kernel
theorem dX9_errorPosition_24 : decode cX9_errorPosition 24 = .ok (.ireturn, 1) := by decide +kernel
theorem dX9_failedCommand_0 : decode cX9_failedCommand 0 = .ok (.aload_n 0, 1) := by decide +kernel
theorem dX9_failedCommand_1 : decode cX9_failedCommand 1 = .ok (.iconst 0, 1) := by decide +kernel
theorem dX9_failedCommand_2 : decode cX9_failedCommand 2 = .ok (.putfield 1, 3) := by decide +kernel
theorem dX9_failedCommand_5 : decode cX9_failedCommand 5 = .ok (.aload_n 0, 1) := by decide +kernel
theorem dX9_failedCommand_6 : decode cX9_failedCommand 6 = .ok (.getfield 39, 3) := by decide +kernel
theorem dX9_failedCommand_9 : decode cX9_failedCommand 9 = .ok (.ifCond .ge 11, 3) := by decide +kernel
theorem dX9_failedCommand_12 : decode cX9_failedCommand 12 = .ok (.aload_n 0, 1) := by decide +kernel
theorem dX9_failedCommand_13 : decode cX9_failedCommand 13 = .ok (.iconst 1, 1) := by decide +kernel
theorem dX9_failedCommand_14 : decode cX9_failedCommand 14 = .ok (.invokevirtual 87, 3) := by decide +kernel
theorem dX9_failedCommand_17 : decode cX9_failedCommand 17 = .ok (.goto 7, 3) := by decide +kernel
theorem dX9_failedCommand_20 : decode cX9_failedCommand 20 = .ok (.aload_n 0, 1) := by decide +kernel
theorem dX9_failedCommand_21 : decode cX9_failedCommand 21 = .ok (.getfield 39, 3) := by decide +kernel
theorem dX9_failedCommand_24 : decode cX9_failedCommand 24 = .ok (.ireturn, 1) := by decide +kernel
theorem dX9_undo_0 : decode cX9_undo 0 = .ok (.aload_n 0, 1) := by decide +kernel
theorem dX9_undo_1 : decode cX9_undo 1 = .ok (.iconst 0, 1) := by decide +kernel
theorem dX9_undo_2 : decode cX9_undo 2 = .ok (.putfield 1, 3) := by decide +kernel
theorem dX9_undo_5 : decode cX9_undo 5 = .ok (.aload_n 0, 1) := by decide +kernel
theorem dX9_undo_6 : decode cX9_undo 6 = .ok (.getfield 45, 3) := by decide +kernel
theorem dX9_undo_9 : decode cX9_undo 9 = .ok (.ifCond .ne 9, 3) := by decide +kernel
theorem dX9_undo_12 : decode cX9_undo 12 = .ok (.aload_n 0, 1) := by decide +kernel
theorem dX9_undo_13 : decode cX9_undo 13 = .ok (.iconst 1, 1) := by decide +kernel
theorem dX9_undo_14 : decode cX9_undo 14 = .ok (.invokevirtual 87, 3) := by decide +kernel
theorem dX9_undo_17 : decode cX9_undo 17 = .ok (.ireturn, 1) := by decide +kernel
theorem dX9_undo_18 : decode cX9_undo 18 = .ok (.aload_n 0, 1) := by decide +kernel
theorem dX9_undo_19 : decode cX9_undo 19 = .ok (.dup, 1) := by decide +kernel
theorem dX9_undo_20 : decode cX9_undo 20 = .ok (.getfield 45, 3) := by decide +kernel
theorem dX9_undo_23 : decode cX9_undo 23 = .ok (.iconst 1, 1) := by decide +kernel
theorem dX9_undo_24 : decode cX9_undo 24 = .ok (.isub, 1) := by decide +kernel
theorem dX9_undo_25 : decode cX9_undo 25 = .ok (.putfield 45, 3) := by decide +kernel
theorem dX9_undo_28 : decode cX9_undo 28 = .ok (.aload_n 0, 1) := by decide +kernel
theorem dX9_undo_29 : decode cX9_undo 29 = .ok (.getfield 48, 3) := by decide +kernel
theorem dX9_undo_32 : decode cX9_undo 32 = .ok (.aload_n 0, 1) := by decide +kernel
theorem dX9_undo_33 : decode cX9_undo 33 = .ok (.getfield 45, 3) := by decide +kernel
theorem dX9_undo_36 : decode cX9_undo 36 = .ok (.iadd, 1) := by decide +kernel
theorem dX9_undo_37 : decode cX9_undo 37 = .ok (.bipush 8, 2) := by decide +kernel
theorem dX9_undo_39 : decode cX9_undo 39 = .ok (.irem, 1) := by decide +kernel
theorem dX9_undo_40 : decode cX9_undo 40 = .ok (.istore_n 1, 1) := by decide +kernel
theorem dX9_undo_41 : decode cX9_undo 41 = .ok (.iconst 0, 1) := by decide +kernel
theorem dX9_undo_42 : decode cX9_undo 42 = .ok (.istore_n 2, 1) := by decide +kernel
theorem dX9_undo_43 : decode cX9_undo 43 = .ok (.iload_n 2, 1) := by decide +kernel
theorem dX9_undo_44 : decode cX9_undo 44 = .ok (.sipush 260, 3) := by decide +kernel
theorem dX9_undo_47 : decode cX9_undo 47 = .ok (.if_icmp .ge 27, 3) := by decide +kernel
theorem dX9_undo_50 : decode cX9_undo 50 = .ok (.aload_n 0, 1) := by decide +kernel
theorem dX9_undo_51 : decode cX9_undo 51 = .ok (.getfield 13, 3) := by decide +kernel
theorem dX9_undo_54 : decode cX9_undo 54 = .ok (.iload_n 2, 1) := by decide +kernel
theorem dX9_undo_55 : decode cX9_undo 55 = .ok (.aload_n 0, 1) := by decide +kernel
theorem dX9_undo_56 : decode cX9_undo 56 = .ok (.getfield 17, 3) := by decide +kernel
theorem dX9_undo_59 : decode cX9_undo 59 = .ok (.sipush 260, 3) := by decide +kernel
theorem dX9_undo_62 : decode cX9_undo 62 = .ok (.iload_n 1, 1) := by decide +kernel
theorem dX9_undo_63 : decode cX9_undo 63 = .ok (.imul, 1) := by decide +kernel
theorem dX9_undo_64 : decode cX9_undo 64 = .ok (.iload_n 2, 1) := by decide +kernel
theorem dX9_undo_65 : decode cX9_undo 65 = .ok (.iadd, 1) := by decide +kernel
theorem dX9_undo_66 : decode cX9_undo 66 = .ok (.iaload, 1) := by decide +kernel
theorem dX9_undo_67 : decode cX9_undo 67 = .ok (.iastore, 1) := by decide +kernel
theorem dX9_undo_68 : decode cX9_undo 68 = .ok (.iinc 2 1, 3) := by decide +kernel
theorem dX9_undo_71 : decode cX9_undo 71 = .ok (.goto (-28), 3) := by decide +kernel
theorem dX9_undo_74 : decode cX9_undo 74 = .ok (.aload_n 0, 1) := by decide +kernel
theorem dX9_undo_75 : decode cX9_undo 75 = .ok (.getfield 45, 3) := by decide +kernel
theorem dX9_undo_78 : decode cX9_undo 78 = .ok (.ireturn, 1) := by decide +kernel
theorem dX9_save_0 : decode cX9_save 0 = .ok (.aload_n 0, 1) := by decide +kernel
theorem dX9_save_1 : decode cX9_save 1 = .ok (.iconst 0, 1) := by decide +kernel
theorem dX9_save_2 : decode cX9_save 2 = .ok (.putfield 1, 3) := by decide +kernel
theorem dX9_save_5 : decode cX9_save 5 = .ok (.iconst 0, 1) := by decide +kernel
theorem dX9_save_6 : decode cX9_save 6 = .ok (.istore_n 1, 1) := by decide +kernel
theorem dX9_save_7 : decode cX9_save 7 = .ok (.iload_n 1, 1) := by decide +kernel
theorem dX9_save_8 : decode cX9_save 8 = .ok (.sipush 260, 3) := by decide +kernel
theorem dX9_save_11 : decode cX9_save 11 = .ok (.if_icmp .ge 21, 3) := by decide +kernel
theorem dX9_save_14 : decode cX9_save 14 = .ok (.aload_n 0, 1) := by decide +kernel
theorem dX9_save_15 : decode cX9_save 15 = .ok (.getfield 20, 3) := by decide +kernel
theorem dX9_save_18 : decode cX9_save 18 = .ok (.iload_n 1, 1) := by decide +kernel
theorem dX9_save_19 : decode cX9_save 19 = .ok (.aload_n 0, 1) := by decide +kernel
theorem dX9_save_20 : decode cX9_save 20 = .ok (.getfield 13, 3) := by decide +kernel
theorem dX9_save_23 : decode cX9_save 23 = .ok (.iload_n 1, 1) := by decide +kernel
theorem dX9_save_24 : decode cX9_save 24 = .ok (.iaload, 1) := by decide +kernel
theorem dX9_save_25 : decode cX9_save 25 = .ok (.iastore, 1) := by decide +kernel
theorem dX9_save_26 : decode cX9_save 26 = .ok (.iinc 1 1, 3) := by decide +kernel
theorem dX9_save_29 : decode cX9_save 29 = .ok (.goto (-22), 3) := by decide +kernel
theorem dX9_save_32 : decode cX9_save 32 = .ok (.aload_n 0, 1) := by decide +kernel
theorem dX9_save_33 : decode cX9_save 33 = .ok (.iconst 1, 1) := by decide +kernel
theorem dX9_save_34 : decode cX9_save 34 = .ok (.putfield 287, 3) := by decide +kernel
theorem dX9_save_37 : decode cX9_save 37 = .ok (.aload_n 0, 1) := by decide +kernel
theorem dX9_save_38 : decode cX9_save 38 = .ok (.getfield 13, 3) := by decide +kernel
theorem dX9_save_41 : decode cX9_save 41 = .ok (.iconst 0, 1) := by decide +kernel
theorem dX9_save_42 : decode cX9_save 42 = .ok (.iaload, 1) := by decide +kernel
theorem dX9_save_43 : decode cX9_save 43 = .ok (.ireturn, 1) := by decide +kernel
theorem dX9_restore_0 : decode cX9_restore 0 = .ok (.aload_n 0, 1) := by decide +kernel
theorem dX9_restore_1 : decode cX9_restore 1 = .ok (.iconst 0, 1) := by decide +kernel
theorem dX9_restore_2 : decode cX9_restore 2 = .ok (.putfield 1, 3) := by decide +kernel
theorem dX9_restore_5 : decode cX9_restore 5 = .ok (.aload_n 0, 1) := by decide +kernel
theorem dX9_restore_6 : decode cX9_restore 6 = .ok (.getfield 287, 3) := by decide +kernel
theorem dX9_restore_9 : decode cX9_restore 9 = .ok (.ifCond .ne 9, 3) := by decide +kernel
theorem dX9_restore_12 : decode cX9_restore 12 = .ok (.aload_n 0, 1) := by decide +kernel
theorem dX9_restore_13 : decode cX9_restore 13 = .ok (.iconst 1, 1) := by decide +kernel
theorem dX9_restore_14 : decode cX9_restore 14 = .ok (.invokevirtual 87, 3) := by decide +kernel
theorem dX9_restore_17 : decode cX9_restore 17 = .ok (.ireturn, 1) := by decide +kernel
theorem dX9_restore_18 : decode cX9_restore 18 = .ok (.iconst 0, 1) := by decide +kernel
theorem dX9_restore_19 : decode cX9_restore 19 = .ok (.istore_n 1, 1) := by decide +kernel
theorem dX9_restore_20 : decode cX9_restore 20 = .ok (.iload_n 1, 1) := by decide +kernel
theorem dX9_restore_21 : decode cX9_restore 21 = .ok (.sipush 260, 3) := by decide +kernel
theorem dX9_restore_24 : decode cX9_restore 24 = .ok (.if_icmp .ge 21, 3) := by decide +kernel
theorem dX9_restore_27 : decode cX9_restore 27 = .ok (.aload_n 0, 1) := by decide +kernel
theorem dX9_restore_28 : decode cX9_restore 28 = .ok (.getfield 13, 3) := by decide +kernel
theorem dX9_restore_31 : decode cX9_restore 31 = .ok (.iload_n 1, 1) := by decide +kernel
theorem dX9_restore_32 : decode cX9_restore 32 = .ok (.aload_n 0, 1) := by decide +kernel
theorem dX9_restore_33 : decode cX9_restore 33 = .ok (.getfield 20, 3) := by decide +kernel
theorem dX9_restore_36 : decode cX9_restore 36 = .ok (.iload_n 1, 1) := by decide +kernel
theorem dX9_restore_37 : decode cX9_restore 37 = .ok (.iaload, 1) := by decide +kernel
theorem dX9_restore_38 : decode cX9_restore 38 = .ok (.iastore, 1) := by decide +kernel
theorem dX9_restore_39 : decode cX9_restore 39 = .ok (.iinc 1 1, 3) := by decide +kernel
theorem dX9_restore_42 : decode cX9_restore 42 = .ok (.goto (-22), 3) := by decide +kernel
theorem dX9_restore_45 : decode cX9_restore 45 = .ok (.aload_n 0, 1) := by decide +kernel
theorem dX9_restore_46 : decode cX9_restore 46 = .ok (.iconst 0, 1) := by decide +kernel
theorem dX9_restore_47 : decode cX9_restore 47 = .ok (.putfield 45, 3) := by decide +kernel
theorem dX9_restore_50 : decode cX9_restore 50 = .ok (.aload_n 0, 1) := by decide +kernel
theorem dX9_restore_51 : decode cX9_restore 51 = .ok (.iconst 0, 1) := by decide +kernel
theorem dX9_restore_52 : decode cX9_restore 52 = .ok (.putfield 48, 3) := by decide +kernel
theorem dX9_restore_55 : decode cX9_restore 55 = .ok (.aload_n 0, 1) := by decide +kernel
theorem dX9_restore_56 : decode cX9_restore 56 = .ok (.getfield 13, 3) := by decide +kernel
theorem dX9_restore_59 : decode cX9_restore 59 = .ok (.iconst 0, 1) := by decide +kernel
theorem dX9_restore_60 : decode cX9_restore 60 = .ok (.iaload, 1) := by decide +kernel
theorem dX9_restore_61 : decode cX9_restore 61 = .ok (.ireturn, 1) := by decide +kernel
theorem dJx00060_init_a7421_0 : decode cJx00060_init_a7421 0 = .ok (.aload_n 0, 1) := by decide +kernel
theorem dJx00060_init_a7421_1 : decode cJx00060_init_a7421 1 = .ok (.aload_n 1, 1) := by decide +kernel
theorem dJx00060_init_a7421_2 : decode cJx00060_init_a7421 2 = .ok (.invokespecial 7, 3) := by decide +kernel
theorem dJx00060_init_a7421_5 : decode cJx00060_init_a7421 5 = .ok (.return_, 1) := by decide +kernel
theorem dJx29ce0_ordinal_8abf5_0 : decode cJx29ce0_ordinal_8abf5 0 = .ok (.aload_n 0, 1) := by decide +kernel
theorem dJx29ce0_ordinal_8abf5_1 : decode cJx29ce0_ordinal_8abf5 1 = .ok (.getfield 7, 3) := by decide +kernel
theorem dJx29ce0_ordinal_8abf5_4 : decode cJx29ce0_ordinal_8abf5 4 = .ok (.ireturn, 1) := by decide +kernel
theorem dJ9_max_7cf53_0 : decode cJ9_max_7cf53 0 = .ok (.iload_n 0, 1) := by decide +kernel
theorem dJ9_max_7cf53_1 : decode cJ9_max_7cf53 1 = .ok (.iload_n 1, 1) := by decide +kernel
theorem dJ9_max_7cf53_2 : decode cJ9_max_7cf53 2 = .ok (.if_icmp .lt 7, 3) := by decide +kernel
theorem dJ9_max_7cf53_5 : decode cJ9_max_7cf53 5 = .ok (.iload_n 0, 1) := by decide +kernel
theorem dJ9_max_7cf53_6 : decode cJ9_max_7cf53 6 = .ok (.goto 4, 3) := by decide +kernel
theorem dJ9_max_7cf53_9 : decode cJ9_max_7cf53 9 = .ok (.iload_n 1, 1) := by decide +kernel
theorem dJ9_max_7cf53_10 : decode cJ9_max_7cf53 10 = .ok (.ireturn, 1) := by decide +kernel
theorem dJ9_min_7cf53_0 : decode cJ9_min_7cf53 0 = .ok (.iload_n 0, 1) := by decide +kernel
theorem dJ9_min_7cf53_1 : decode cJ9_min_7cf53 1 = .ok (.iload_n 1, 1) := by decide +kernel
theorem dJ9_min_7cf53_2 : decode cJ9_min_7cf53 2 = .ok (.if_icmp .gt 7, 3) := by decide +kernel
theorem dJ9_min_7cf53_5 : decode cJ9_min_7cf53 5 = .ok (.iload_n 0, 1) := by decide +kernel
theorem dJ9_min_7cf53_6 : decode cJ9_min_7cf53 6 = .ok (.goto 4, 3) := by decide +kernel
theorem dJ9_min_7cf53_9 : decode cJ9_min_7cf53 9 = .ok (.iload_n 1, 1) := by decide +kernel
theorem dJ9_min_7cf53_10 : decode cJ9_min_7cf53 10 = .ok (.ireturn, 1) := by decide +kernel
theorem dJ0_length_8abf5_0 : decode cJ0_length_8abf5 0 = .ok (.aload_n 0, 1) := by decide +kernel
theorem dJ0_length_8abf5_1 : decode cJ0_length_8abf5 1 = .ok (.getfield 9, 3) := by decide +kernel
theorem dJ0_length_8abf5_4 : decode cJ0_length_8abf5 4 = .ok (.arraylength, 1) := by decide +kernel
theorem dJ0_length_8abf5_5 : decode cJ0_length_8abf5 5 = .ok (.aload_n 0, 1) := by decide +kernel
theorem dJ0_length_8abf5_6 : decode cJ0_length_8abf5 6 = .ok (.invokevirtual 335, 3) := by decide +kernel
theorem dJ0_length_8abf5_9 : decode cJ0_length_8abf5 9 = .ok (.ishr, 1) := by decide +kernel
theorem dJ0_length_8abf5_10 : decode cJ0_length_8abf5 10 = .ok (.ireturn, 1) := by decide +kernel
theorem dJ0_charAt_5068e_0 : decode cJ0_charAt_5068e 0 = .ok (.aload_n 0, 1) := by decide +kernel
theorem dJ0_charAt_5068e_1 : decode cJ0_charAt_5068e 1 = .ok (.invokevirtual 492, 3) := by decide +kernel
theorem dJ0_charAt_5068e_4 : decode cJ0_charAt_5068e 4 = .ok (.ifCond .eq 12, 3) := by decide +kernel
theorem dJ0_charAt_5068e_7 : decode cJ0_charAt_5068e 7 = .ok (.aload_n 0, 1) := by decide +kernel
theorem dJ0_charAt_5068e_8 : decode cJ0_charAt_5068e 8 = .ok (.getfield 9, 3) := by decide +kernel
theorem dJ0_charAt_5068e_11 : decode cJ0_charAt_5068e 11 = .ok (.iload_n 1, 1) := by decide +kernel
theorem dJ0_charAt_5068e_12 : decode cJ0_charAt_5068e 12 = .ok (.invokestatic 495, 3) := by decide +kernel
theorem dJ0_charAt_5068e_15 : decode cJ0_charAt_5068e 15 = .ok (.ireturn, 1) := by decide +kernel
theorem dJ0_charAt_5068e_16 : decode cJ0_charAt_5068e 16 = .ok (.aload_n 0, 1) := by decide +kernel
theorem dJ0_charAt_5068e_17 : decode cJ0_charAt_5068e 17 = .ok (.getfield 9, 3) := by decide +kernel
theorem dJ0_charAt_5068e_20 : decode cJ0_charAt_5068e 20 = .ok (.iload_n 1, 1) := by decide +kernel
theorem dJ0_charAt_5068e_21 : decode cJ0_charAt_5068e 21 = .ok (.invokestatic 498, 3) := by decide +kernel
theorem dJ0_charAt_5068e_24 : decode cJ0_charAt_5068e 24 = .ok (.ireturn, 1) := by decide +kernel
theorem dJ0_coder_7d493_0 : decode cJ0_coder_7d493 0 = .ok (.getstatic 38, 3) := by decide +kernel
theorem dJ0_coder_7d493_3 : decode cJ0_coder_7d493 3 = .ok (.ifCond .eq 10, 3) := by decide +kernel
theorem dJ0_coder_7d493_6 : decode cJ0_coder_7d493 6 = .ok (.aload_n 0, 1) := by decide +kernel
theorem dJ0_coder_7d493_7 : decode cJ0_coder_7d493 7 = .ok (.getfield 15, 3) := by decide +kernel
theorem dJ0_coder_7d493_10 : decode cJ0_coder_7d493 10 = .ok (.goto 4, 3) := by decide +kernel
theorem dJ0_coder_7d493_13 : decode cJ0_coder_7d493 13 = .ok (.iconst 1, 1) := by decide +kernel
theorem dJ0_coder_7d493_14 : decode cJ0_coder_7d493 14 = .ok (.ireturn, 1) := by decide +kernel
theorem dJ0_isLatin1_aae02_0 : decode cJ0_isLatin1_aae02 0 = .ok (.getstatic 38, 3) := by decide +kernel
theorem dJ0_isLatin1_aae02_3 : decode cJ0_isLatin1_aae02 3 = .ok (.ifCond .eq 14, 3) := by decide +kernel
theorem dJ0_isLatin1_aae02_6 : decode cJ0_isLatin1_aae02 6 = .ok (.aload_n 0, 1) := by decide +kernel
theorem dJ0_isLatin1_aae02_7 : decode cJ0_isLatin1_aae02 7 = .ok (.getfield 15, 3) := by decide +kernel
theorem dJ0_isLatin1_aae02_10 : decode cJ0_isLatin1_aae02 10 = .ok (.ifCond .ne 7, 3) := by decide +kernel
theorem dJ0_isLatin1_aae02_13 : decode cJ0_isLatin1_aae02 13 = .ok (.iconst 1, 1) := by decide +kernel
theorem dJ0_isLatin1_aae02_14 : decode cJ0_isLatin1_aae02 14 = .ok (.goto 4, 3) := by decide +kernel
theorem dJ0_isLatin1_aae02_17 : decode cJ0_isLatin1_aae02 17 = .ok (.iconst 0, 1) := by decide +kernel
theorem dJ0_isLatin1_aae02_18 : decode cJ0_isLatin1_aae02 18 = .ok (.ireturn, 1) := by decide +kernel
theorem dJ0_checkIndex_df160_0 : decode cJ0_checkIndex_df160 0 = .ok (.iload_n 0, 1) := by decide +kernel
theorem dJ0_checkIndex_df160_1 : decode cJ0_checkIndex_df160 1 = .ok (.iload_n 1, 1) := by decide +kernel
theorem dJ0_checkIndex_df160_2 : decode cJ0_checkIndex_df160 2 = .ok (.getstatic 1053, 3) := by decide +kernel
theorem dJ0_checkIndex_df160_5 : decode cJ0_checkIndex_df160 5 = .ok (.invokestatic 1059, 3) := by decide +kernel
theorem dJ0_checkIndex_df160_8 : decode cJ0_checkIndex_df160 8 = .ok (.pop, 1) := by decide +kernel
theorem dJ0_checkIndex_df160_9 : decode cJ0_checkIndex_df160 9 = .ok (.return_, 1) := by decide +kernel
theorem dJ1_charAt_3b067_0 : decode cJ1_charAt_3b067 0 = .ok (.iload_n 1, 1) := by decide +kernel
theorem dJ1_charAt_3b067_1 : decode cJ1_charAt_3b067 1 = .ok (.aload_n 0, 1) := by decide +kernel
theorem dJ1_charAt_3b067_2 : decode cJ1_charAt_3b067 2 = .ok (.arraylength, 1) := by decide +kernel
theorem dJ1_charAt_3b067_3 : decode cJ1_charAt_3b067 3 = .ok (.invokestatic 9, 3) := by decide +kernel
theorem dJ1_charAt_3b067_6 : decode cJ1_charAt_3b067 6 = .ok (.aload_n 0, 1) := by decide +kernel
theorem dJ1_charAt_3b067_7 : decode cJ1_charAt_3b067 7 = .ok (.iload_n 1, 1) := by decide +kernel
theorem dJ1_charAt_3b067_8 : decode cJ1_charAt_3b067 8 = .ok (.baload, 1) := by decide +kernel
theorem dJ1_charAt_3b067_9 : decode cJ1_charAt_3b067 9 = .ok (.sipush 255, 3) := by decide +kernel
theorem dJ1_charAt_3b067_12 : decode cJ1_charAt_3b067 12 = .ok (.iand, 1) := by decide +kernel
theorem dJ1_charAt_3b067_13 : decode cJ1_charAt_3b067 13 = .ok (.i2c, 1) := by decide +kernel
theorem dJ1_charAt_3b067_14 : decode cJ1_charAt_3b067 14 = .ok (.ireturn, 1) := by decide +kernel
theorem dJ2_getChar_3b067_0 : decode cJ2_getChar_3b067 0 = .ok (.getstatic 44, 3) := by decide +kernel
theorem dJ2_getChar_3b067_3 : decode cJ2_getChar_3b067 3 = .ok (.ifCond .ne 25, 3) := by decide +kernel
theorem dJ2_getChar_3b067_6 : decode cJ2_getChar_3b067 6 = .ok (.iload_n 1, 1) := by decide +kernel
theorem dJ2_getChar_3b067_7 : decode cJ2_getChar_3b067 7 = .ok (.ifCond .lt 11, 3) := by decide +kernel
theorem dJ2_getChar_3b067_10 : decode cJ2_getChar_3b067 10 = .ok (.iload_n 1, 1) := by decide +kernel
theorem dJ2_getChar_3b067_11 : decode cJ2_getChar_3b067 11 = .ok (.aload_n 0, 1) := by decide +kernel
theorem dJ2_getChar_3b067_12 : decode cJ2_getChar_3b067 12 = .ok (.invokestatic 48, 3) := by decide +kernel
theorem dJ2_getChar_3b067_15 : decode cJ2_getChar_3b067 15 = .ok (.if_icmp .lt 13, 3) := by decide +kernel
theorem dJ2_getChar_3b067_18 : decode cJ2_getChar_3b067 18 = .ok (.new 52, 3) := by decide +kernel
theorem dJ2_getChar_3b067_21 : decode cJ2_getChar_3b067 21 = .ok (.dup, 1) := by decide +kernel
theorem dJ2_getChar_3b067_22 : decode cJ2_getChar_3b067 22 = .ok (.ldc 54, 2) := by decide +kernel
theorem dJ2_getChar_3b067_24 : decode cJ2_getChar_3b067 24 = .ok (.invokespecial 56, 3) := by decide +kernel
theorem dJ2_getChar_3b067_27 : decode cJ2_getChar_3b067 27 = .ok (.athrow, 1) := by decide +kernel
theorem dJ2_getChar_3b067_28 : decode cJ2_getChar_3b067 28 = .ok (.iload_n 1, 1) := by decide +kernel
theorem dJ2_getChar_3b067_29 : decode cJ2_getChar_3b067 29 = .ok (.iconst 1, 1) := by decide +kernel
theorem dJ2_getChar_3b067_30 : decode cJ2_getChar_3b067 30 = .ok (.ishl, 1) := by decide +kernel
theorem dJ2_getChar_3b067_31 : decode cJ2_getChar_3b067 31 = .ok (.istore_n 1, 1) := by decide +kernel
theorem dJ2_getChar_3b067_32 : decode cJ2_getChar_3b067 32 = .ok (.aload_n 0, 1) := by decide +kernel
theorem dJ2_getChar_3b067_33 : decode cJ2_getChar_3b067 33 = .ok (.iload_n 1, 1) := by decide +kernel
theorem dJ2_getChar_3b067_34 : decode cJ2_getChar_3b067 34 = .ok (.iinc 1 1, 3) := by decide +kernel
theorem dJ2_getChar_3b067_37 : decode cJ2_getChar_3b067 37 = .ok (.baload, 1) := by decide +kernel
theorem dJ2_getChar_3b067_38 : decode cJ2_getChar_3b067 38 = .ok (.sipush 255, 3) := by decide +kernel
theorem dJ2_getChar_3b067_41 : decode cJ2_getChar_3b067 41 = .ok (.iand, 1) := by decide +kernel
theorem dJ2_getChar_3b067_42 : decode cJ2_getChar_3b067 42 = .ok (.getstatic 59, 3) := by decide +kernel
theorem dJ2_getChar_3b067_45 : decode cJ2_getChar_3b067 45 = .ok (.ishl, 1) := by decide +kernel
theorem dJ2_getChar_3b067_46 : decode cJ2_getChar_3b067 46 = .ok (.aload_n 0, 1) := by decide +kernel
theorem dJ2_getChar_3b067_47 : decode cJ2_getChar_3b067 47 = .ok (.iload_n 1, 1) := by decide +kernel
theorem dJ2_getChar_3b067_48 : decode cJ2_getChar_3b067 48 = .ok (.baload, 1) := by decide +kernel
theorem dJ2_getChar_3b067_49 : decode cJ2_getChar_3b067 49 = .ok (.sipush 255, 3) := by decide +kernel
theorem dJ2_getChar_3b067_52 : decode cJ2_getChar_3b067 52 = .ok (.iand, 1) := by decide +kernel
theorem dJ2_getChar_3b067_53 : decode cJ2_getChar_3b067 53 = .ok (.getstatic 63, 3) := by decide +kernel
theorem dJ2_getChar_3b067_56 : decode cJ2_getChar_3b067 56 = .ok (.ishl, 1) := by decide +kernel
theorem dJ2_getChar_3b067_57 : decode cJ2_getChar_3b067 57 = .ok (.ior, 1) := by decide +kernel
theorem dJ2_getChar_3b067_58 : decode cJ2_getChar_3b067 58 = .ok (.i2c, 1) := by decide +kernel
theorem dJ2_getChar_3b067_59 : decode cJ2_getChar_3b067 59 = .ok (.ireturn, 1) := by decide +kernel
theorem dJ2_length_9d52b_0 : decode cJ2_length_9d52b 0 = .ok (.aload_n 0, 1) := by decide +kernel
theorem dJ2_length_9d52b_1 : decode cJ2_length_9d52b 1 = .ok (.arraylength, 1) := by decide +kernel
theorem dJ2_length_9d52b_2 : decode cJ2_length_9d52b 2 = .ok (.iconst 1, 1) := by decide +kernel
theorem dJ2_length_9d52b_3 : decode cJ2_length_9d52b 3 = .ok (.ishr, 1) := by decide +kernel
theorem dJ2_length_9d52b_4 : decode cJ2_length_9d52b 4 = .ok (.ireturn, 1) := by decide +kernel
theorem dJ2_charAt_3b067_0 : decode cJ2_charAt_3b067 0 = .ok (.iload_n 1, 1) := by decide +kernel
theorem dJ2_charAt_3b067_1 : decode cJ2_charAt_3b067 1 = .ok (.aload_n 0, 1) := by decide +kernel
theorem dJ2_charAt_3b067_2 : decode cJ2_charAt_3b067 2 = .ok (.invokestatic 67, 3) := by decide +kernel
theorem dJ2_charAt_3b067_5 : decode cJ2_charAt_3b067 5 = .ok (.aload_n 0, 1) := by decide +kernel
theorem dJ2_charAt_3b067_6 : decode cJ2_charAt_3b067 6 = .ok (.iload_n 1, 1) := by decide +kernel
theorem dJ2_charAt_3b067_7 : decode cJ2_charAt_3b067 7 = .ok (.invokestatic 71, 3) := by decide +kernel
theorem dJ2_charAt_3b067_10 : decode cJ2_charAt_3b067 10 = .ok (.ireturn, 1) := by decide +kernel
theorem dJ2_checkIndex_2214a_0 : decode cJ2_checkIndex_2214a 0 = .ok (.iload_n 0, 1) := by decide +kernel
theorem dJ2_checkIndex_2214a_1 : decode cJ2_checkIndex_2214a 1 = .ok (.aload_n 1, 1) := by decide +kernel
theorem dJ2_checkIndex_2214a_2 : decode cJ2_checkIndex_2214a 2 = .ok (.invokestatic 48, 3) := by decide +kernel
theorem dJ2_checkIndex_2214a_5 : decode cJ2_checkIndex_2214a 5 = .ok (.invokestatic 414, 3) := by decide +kernel
theorem dJ2_checkIndex_2214a_8 : decode cJ2_checkIndex_2214a 8 = .ok (.return_, 1) := by decide +kernel
theorem dJ3_checkIndex_8e157_0 : decode cJ3_checkIndex_8e157 0 = .ok (.iload_n 0, 1) := by decide +kernel
theorem dJ3_checkIndex_8e157_1 : decode cJ3_checkIndex_8e157 1 = .ok (.ifCond .lt 8, 3) := by decide +kernel
theorem dJ3_checkIndex_8e157_4 : decode cJ3_checkIndex_8e157 4 = .ok (.iload_n 0, 1) := by decide +kernel
theorem dJ3_checkIndex_8e157_5 : decode cJ3_checkIndex_8e157 5 = .ok (.iload_n 1, 1) := by decide +kernel
theorem dJ3_checkIndex_8e157_6 : decode cJ3_checkIndex_8e157 6 = .ok (.if_icmp .lt 10, 3) := by decide +kernel
theorem dJ3_checkIndex_8e157_9 : decode cJ3_checkIndex_8e157 9 = .ok (.aload_n 2, 1) := by decide +kernel
theorem dJ3_checkIndex_8e157_10 : decode cJ3_checkIndex_8e157 10 = .ok (.iload_n 0, 1) := by decide +kernel
theorem dJ3_checkIndex_8e157_11 : decode cJ3_checkIndex_8e157 11 = .ok (.iload_n 1, 1) := by decide +kernel
theorem dJ3_checkIndex_8e157_12 : decode cJ3_checkIndex_8e157 12 = .ok (.invokestatic 95, 3) := by decide +kernel
theorem dJ3_checkIndex_8e157_15 : decode cJ3_checkIndex_8e157 15 = .ok (.athrow, 1) := by decide +kernel
theorem dJ3_checkIndex_8e157_16 : decode cJ3_checkIndex_8e157 16 = .ok (.iload_n 0, 1) := by decide +kernel
theorem dJ3_checkIndex_8e157_17 : decode cJ3_checkIndex_8e157 17 = .ok (.ireturn, 1) := by decide +kernel
theorem dL_addSection_0 : decode cL_addSection 0 = .ok (.aload 4, 2) := by decide +kernel
theorem dL_addSection_2 : decode cL_addSection 2 = .ok (.iconst 0, 1) := by decide +kernel
theorem dL_addSection_3 : decode cL_addSection 3 = .ok (.aload_n 0, 1) := by decide +kernel
theorem dL_addSection_4 : decode cL_addSection 4 = .ok (.iload_n 1, 1) := by decide +kernel
theorem dL_addSection_5 : decode cL_addSection 5 = .ok (.iload_n 2, 1) := by decide +kernel
theorem dL_addSection_6 : decode cL_addSection 6 = .ok (.iload_n 3, 1) := by decide +kernel
theorem dL_addSection_7 : decode cL_addSection 7 = .ok (.invokevirtual 7, 3) := by decide +kernel
theorem dL_addSection_10 : decode cL_addSection 10 = .ok (.i2l, 1) := by decide +kernel
theorem dL_addSection_11 : decode cL_addSection 11 = .ok (.lastore, 1) := by decide +kernel
theorem dL_addSection_12 : decode cL_addSection 12 = .ok (.goto 11, 3) := by decide +kernel
theorem dL_addSection_15 : decode cL_addSection 15 = .ok (.astore 5, 2) := by decide +kernel
theorem dL_addSection_17 : decode cL_addSection 17 = .ok (.iconst 1, 1) := by decide +kernel
theorem dL_addSection_18 : decode cL_addSection 18 = .ok (.ireturn, 1) := by decide +kernel
theorem dL_addSection_19 : decode cL_addSection 19 = .ok (.astore 5, 2) := by decide +kernel
theorem dL_addSection_21 : decode cL_addSection 21 = .ok (.iconst 2, 1) := by decide +kernel
theorem dL_addSection_22 : decode cL_addSection 22 = .ok (.ireturn, 1) := by decide +kernel
theorem dL_addSection_23 : decode cL_addSection 23 = .ok (.iconst 0, 1) := by decide +kernel
theorem dL_addSection_24 : decode cL_addSection 24 = .ok (.ireturn, 1) := by decide +kernel
theorem dL_removeSection_0 : decode cL_removeSection 0 = .ok (.aload_n 2, 1) := by decide +kernel
theorem dL_removeSection_1 : decode cL_removeSection 1 = .ok (.iconst 0, 1) := by decide +kernel
theorem dL_removeSection_2 : decode cL_removeSection 2 = .ok (.aload_n 0, 1) := by decide +kernel
theorem dL_removeSection_3 : decode cL_removeSection 3 = .ok (.iload_n 1, 1) := by decide +kernel
theorem dL_removeSection_4 : decode cL_removeSection 4 = .ok (.invokevirtual 17, 3) := by decide +kernel
theorem dL_removeSection_7 : decode cL_removeSection 7 = .ok (.i2l, 1) := by decide +kernel
theorem dL_removeSection_8 : decode cL_removeSection 8 = .ok (.lastore, 1) := by decide +kernel
theorem dL_removeSection_9 : decode cL_removeSection 9 = .ok (.goto 6, 3) := by decide +kernel
theorem dL_removeSection_12 : decode cL_removeSection 12 = .ok (.astore_n 3, 1) := by decide +kernel
theorem dL_removeSection_13 : decode cL_removeSection 13 = .ok (.iconst 1, 1) := by decide +kernel
theorem dL_removeSection_14 : decode cL_removeSection 14 = .ok (.ireturn, 1) := by decide +kernel
theorem dL_removeSection_15 : decode cL_removeSection 15 = .ok (.iconst 0, 1) := by decide +kernel
theorem dL_removeSection_16 : decode cL_removeSection 16 = .ok (.ireturn, 1) := by decide +kernel
theorem dL_setNote_0 : decode cL_setNote 0 = .ok (.aload 5, 2) := by decide +kernel
theorem dL_setNote_2 : decode cL_setNote 2 = .ok (.iconst 0, 1) := by decide +kernel
theorem dL_setNote_3 : decode cL_setNote 3 = .ok (.aload_n 0, 1) := by decide +kernel
theorem dL_setNote_4 : decode cL_setNote 4 = .ok (.iload_n 1, 1) := by decide +kernel
theorem dL_setNote_5 : decode cL_setNote 5 = .ok (.iload_n 2, 1) := by decide +kernel
theorem dL_setNote_6 : decode cL_setNote 6 = .ok (.iload_n 3, 1) := by decide +kernel
theorem dL_setNote_7 : decode cL_setNote 7 = .ok (.iload 4, 2) := by decide +kernel
theorem dL_setNote_9 : decode cL_setNote 9 = .ok (.invokevirtual 23, 3) := by decide +kernel
theorem dL_setNote_12 : decode cL_setNote 12 = .ok (.i2l, 1) := by decide +kernel
theorem dL_setNote_13 : decode cL_setNote 13 = .ok (.lastore, 1) := by decide +kernel
theorem dL_setNote_14 : decode cL_setNote 14 = .ok (.goto 11, 3) := by decide +kernel
theorem dL_setNote_17 : decode cL_setNote 17 = .ok (.astore 6, 2) := by decide +kernel
theorem dL_setNote_19 : decode cL_setNote 19 = .ok (.iconst 1, 1) := by decide +kernel
theorem dL_setNote_20 : decode cL_setNote 20 = .ok (.ireturn, 1) := by decide +kernel
theorem dL_setNote_21 : decode cL_setNote 21 = .ok (.astore 6, 2) := by decide +kernel
theorem dL_setNote_23 : decode cL_setNote 23 = .ok (.iconst 2, 1) := by decide +kernel
theorem dL_setNote_24 : decode cL_setNote 24 = .ok (.ireturn, 1) := by decide +kernel
theorem dL_setNote_25 : decode cL_setNote 25 = .ok (.iconst 0, 1) := by decide +kernel
theorem dL_setNote_26 : decode cL_setNote 26 = .ok (.ireturn, 1) := by decide +kernel
theorem dL_setMasked_0 : decode cL_setMasked 0 = .ok (.aload 4, 2) := by decide +kernel
theorem dL_setMasked_2 : decode cL_setMasked 2 = .ok (.iconst 0, 1) := by decide +kernel
theorem dL_setMasked_3 : decode cL_setMasked 3 = .ok (.aload_n 0, 1) := by decide +kernel
theorem dL_setMasked_4 : decode cL_setMasked 4 = .ok (.iload_n 1, 1) := by decide +kernel
theorem dL_setMasked_5 : decode cL_setMasked 5 = .ok (.iload_n 2, 1) := by decide +kernel
theorem dL_setMasked_6 : decode cL_setMasked 6 = .ok (.iload_n 3, 1) := by decide +kernel
theorem dL_setMasked_7 : decode cL_setMasked 7 = .ok (.invokevirtual 27, 3) := by decide +kernel
theorem dL_setMasked_10 : decode cL_setMasked 10 = .ok (.ifCond .eq 7, 3) := by decide +kernel
theorem dL_setMasked_13 : decode cL_setMasked 13 = .ok (.lconst 1, 1) := by decide +kernel
theorem dL_setMasked_14 : decode cL_setMasked 14 = .ok (.goto 4, 3) := by decide +kernel
theorem dL_setMasked_17 : decode cL_setMasked 17 = .ok (.lconst 0, 1) := by decide +kernel
theorem dL_setMasked_18 : decode cL_setMasked 18 = .ok (.lastore, 1) := by decide +kernel
theorem dL_setMasked_19 : decode cL_setMasked 19 = .ok (.goto 11, 3) := by decide +kernel
theorem dL_setMasked_22 : decode cL_setMasked 22 = .ok (.astore 5, 2) := by decide +kernel
theorem dL_setMasked_24 : decode cL_setMasked 24 = .ok (.iconst 1, 1) := by decide +kernel
theorem dL_setMasked_25 : decode cL_setMasked 25 = .ok (.ireturn, 1) := by decide +kernel
theorem dL_setMasked_26 : decode cL_setMasked 26 = .ok (.astore 5, 2) := by decide +kernel
theorem dL_setMasked_28 : decode cL_setMasked 28 = .ok (.iconst 2, 1) := by decide +kernel
theorem dL_setMasked_29 : decode cL_setMasked 29 = .ok (.ireturn, 1) := by decide +kernel
theorem dL_setMasked_30 : decode cL_setMasked 30 = .ok (.iconst 0, 1) := by decide +kernel
theorem dL_setMasked_31 : decode cL_setMasked 31 = .ok (.ireturn, 1) := by decide +kernel
theorem dL_transpose_0 : decode cL_transpose 0 = .ok (.aload_n 2, 1) := by decide +kernel
theorem dL_transpose_1 : decode cL_transpose 1 = .ok (.iconst 0, 1) := by decide +kernel
theorem dL_transpose_2 : decode cL_transpose 2 = .ok (.aload_n 0, 1) := by decide +kernel
theorem dL_transpose_3 : decode cL_transpose 3 = .ok (.iload_n 1, 1) := by decide +kernel
theorem dL_transpose_4 : decode cL_transpose 4 = .ok (.invokevirtual 31, 3) := by decide +kernel
theorem dL_transpose_7 : decode cL_transpose 7 = .ok (.i2l, 1) := by decide +kernel
theorem dL_transpose_8 : decode cL_transpose 8 = .ok (.lastore, 1) := by decide +kernel
theorem dL_transpose_9 : decode cL_transpose 9 = .ok (.goto 6, 3) := by decide +kernel
theorem dL_transpose_12 : decode cL_transpose 12 = .ok (.astore_n 3, 1) := by decide +kernel
theorem dL_transpose_13 : decode cL_transpose 13 = .ok (.iconst 1, 1) := by decide +kernel
theorem dL_transpose_14 : decode cL_transpose 14 = .ok (.ireturn, 1) := by decide +kernel
theorem dL_transpose_15 : decode cL_transpose 15 = .ok (.iconst 0, 1) := by decide +kernel
theorem dL_transpose_16 : decode cL_transpose 16 = .ok (.ireturn, 1) := by decide +kernel
theorem dL_reverse_0 : decode cL_reverse 0 = .ok (.aload_n 2, 1) := by decide +kernel
theorem dL_reverse_1 : decode cL_reverse 1 = .ok (.iconst 0, 1) := by decide +kernel
theorem dL_reverse_2 : decode cL_reverse 2 = .ok (.aload_n 0, 1) := by decide +kernel
theorem dL_reverse_3 : decode cL_reverse 3 = .ok (.iload_n 1, 1) := by decide +kernel
theorem dL_reverse_4 : decode cL_reverse 4 = .ok (.invokevirtual 34, 3) := by decide +kernel
theorem dL_reverse_7 : decode cL_reverse 7 = .ok (.i2l, 1) := by decide +kernel
theorem dL_reverse_8 : decode cL_reverse 8 = .ok (.lastore, 1) := by decide +kernel
theorem dL_reverse_9 : decode cL_reverse 9 = .ok (.goto 6, 3) := by decide +kernel
theorem dL_reverse_12 : decode cL_reverse 12 = .ok (.astore_n 3, 1) := by decide +kernel
theorem dL_reverse_13 : decode cL_reverse 13 = .ok (.iconst 1, 1) := by decide +kernel
theorem dL_reverse_14 : decode cL_reverse 14 = .ok (.ireturn, 1) := by decide +kernel
theorem dL_reverse_15 : decode cL_reverse 15 = .ok (.iconst 0, 1) := by decide +kernel
theorem dL_reverse_16 : decode cL_reverse 16 = .ok (.ireturn, 1) := by decide +kernel
theorem dL_raise_0 : decode cL_raise 0 = .ok (.aload_n 3, 1) := by decide +kernel
theorem dL_raise_1 : decode cL_raise 1 = .ok (.iconst 0, 1) := by decide +kernel
theorem dL_raise_2 : decode cL_raise 2 = .ok (.aload_n 0, 1) := by decide +kernel
theorem dL_raise_3 : decode cL_raise 3 = .ok (.iload_n 1, 1) := by decide +kernel
theorem dL_raise_4 : decode cL_raise 4 = .ok (.iload_n 2, 1) := by decide +kernel
theorem dL_raise_5 : decode cL_raise 5 = .ok (.invokevirtual 37, 3) := by decide +kernel
theorem dL_raise_8 : decode cL_raise 8 = .ok (.i2l, 1) := by decide +kernel
theorem dL_raise_9 : decode cL_raise 9 = .ok (.lastore, 1) := by decide +kernel
theorem dL_raise_10 : decode cL_raise 10 = .ok (.goto 15, 3) := by decide +kernel
theorem dL_raise_13 : decode cL_raise 13 = .ok (.astore 4, 2) := by decide +kernel
theorem dL_raise_15 : decode cL_raise 15 = .ok (.iconst 1, 1) := by decide +kernel
theorem dL_raise_16 : decode cL_raise 16 = .ok (.ireturn, 1) := by decide +kernel
theorem dL_raise_17 : decode cL_raise 17 = .ok (.astore 4, 2) := by decide +kernel
theorem dL_raise_19 : decode cL_raise 19 = .ok (.iconst 2, 1) := by decide +kernel
theorem dL_raise_20 : decode cL_raise 20 = .ok (.ireturn, 1) := by decide +kernel
theorem dL_raise_21 : decode cL_raise 21 = .ok (.astore 4, 2) := by decide +kernel
theorem dL_raise_23 : decode cL_raise 23 = .ok (.iconst 3, 1) := by decide +kernel
theorem dL_raise_24 : decode cL_raise 24 = .ok (.ireturn, 1) := by decide +kernel
theorem dL_raise_25 : decode cL_raise 25 = .ok (.iconst 0, 1) := by decide +kernel
theorem dL_raise_26 : decode cL_raise 26 = .ok (.ireturn, 1) := by decide +kernel
theorem dL_setTempo_0 : decode cL_setTempo 0 = .ok (.aload_n 2, 1) := by decide +kernel
theorem dL_setTempo_1 : decode cL_setTempo 1 = .ok (.iconst 0, 1) := by decide +kernel
theorem dL_setTempo_2 : decode cL_setTempo 2 = .ok (.aload_n 0, 1) := by decide +kernel
theorem dL_setTempo_3 : decode cL_setTempo 3 = .ok (.iload_n 1, 1) := by decide +kernel
theorem dL_setTempo_4 : decode cL_setTempo 4 = .ok (.invokevirtual 43, 3) := by decide +kernel
theorem dL_setTempo_7 : decode cL_setTempo 7 = .ok (.i2l, 1) := by decide +kernel
theorem dL_setTempo_8 : decode cL_setTempo 8 = .ok (.lastore, 1) := by decide +kernel
theorem dL_setTempo_9 : decode cL_setTempo 9 = .ok (.goto 6, 3) := by decide +kernel
theorem dL_setTempo_12 : decode cL_setTempo 12 = .ok (.astore_n 3, 1) := by decide +kernel
theorem dL_setTempo_13 : decode cL_setTempo 13 = .ok (.iconst 1, 1) := by decide +kernel
theorem dL_setTempo_14 : decode cL_setTempo 14 = .ok (.ireturn, 1) := by decide +kernel
theorem dL_setTempo_15 : decode cL_setTempo 15 = .ok (.iconst 0, 1) := by decide +kernel
theorem dL_setTempo_16 : decode cL_setTempo 16 = .ok (.ireturn, 1) := by decide +kernel
theorem dL_setLimit_0 : decode cL_setLimit 0 = .ok (.aload_n 2, 1) := by decide +kernel
theorem dL_setLimit_1 : decode cL_setLimit 1 = .ok (.iconst 0, 1) := by decide +kernel
theorem dL_setLimit_2 : decode cL_setLimit 2 = .ok (.aload_n 0, 1) := by decide +kernel
theorem dL_setLimit_3 : decode cL_setLimit 3 = .ok (.iload_n 1, 1) := by decide +kernel
theorem dL_setLimit_4 : decode cL_setLimit 4 = .ok (.invokevirtual 46, 3) := by decide +kernel
theorem dL_setLimit_7 : decode cL_setLimit 7 = .ok (.i2l, 1) := by decide +kernel
theorem dL_setLimit_8 : decode cL_setLimit 8 = .ok (.lastore, 1) := by decide +kernel
theorem dL_setLimit_9 : decode cL_setLimit 9 = .ok (.goto 6, 3) := by decide +kernel
theorem dL_setLimit_12 : decode cL_setLimit 12 = .ok (.astore_n 3, 1) := by decide +kernel
theorem dL_setLimit_13 : decode cL_setLimit 13 = .ok (.iconst 1, 1) := by decide +kernel
theorem dL_setLimit_14 : decode cL_setLimit 14 = .ok (.ireturn, 1) := by decide +kernel
theorem dL_setLimit_15 : decode cL_setLimit 15 = .ok (.iconst 0, 1) := by decide +kernel
theorem dL_setLimit_16 : decode cL_setLimit 16 = .ok (.ireturn, 1) := by decide +kernel
theorem dL_conductBeats_0 : decode cL_conductBeats 0 = .ok (.aload_n 2, 1) := by decide +kernel
theorem dL_conductBeats_1 : decode cL_conductBeats 1 = .ok (.iconst 0, 1) := by decide +kernel
theorem dL_conductBeats_2 : decode cL_conductBeats 2 = .ok (.aload_n 0, 1) := by decide +kernel
theorem dL_conductBeats_3 : decode cL_conductBeats 3 = .ok (.iload_n 1, 1) := by decide +kernel
theorem dL_conductBeats_4 : decode cL_conductBeats 4 = .ok (.invokevirtual 49, 3) := by decide +kernel
theorem dL_conductBeats_7 : decode cL_conductBeats 7 = .ok (.i2l, 1) := by decide +kernel
theorem dL_conductBeats_8 : decode cL_conductBeats 8 = .ok (.lastore, 1) := by decide +kernel
theorem dL_conductBeats_9 : decode cL_conductBeats 9 = .ok (.goto 6, 3) := by decide +kernel
theorem dL_conductBeats_12 : decode cL_conductBeats 12 = .ok (.astore_n 3, 1) := by decide +kernel
theorem dL_conductBeats_13 : decode cL_conductBeats 13 = .ok (.iconst 1, 1) := by decide +kernel
theorem dL_conductBeats_14 : decode cL_conductBeats 14 = .ok (.ireturn, 1) := by decide +kernel
theorem dL_conductBeats_15 : decode cL_conductBeats 15 = .ok (.iconst 0, 1) := by decide +kernel
theorem dL_conductBeats_16 : decode cL_conductBeats 16 = .ok (.ireturn, 1) := by decide +kernel
theorem dL_kind_0 : decode cL_kind 0 = .ok (.aload_n 2, 1) := by decide +kernel
theorem dL_kind_1 : decode cL_kind 1 = .ok (.iconst 0, 1) := by decide +kernel
theorem dL_kind_2 : decode cL_kind 2 = .ok (.aload_n 0, 1) := by decide +kernel
theorem dL_kind_3 : decode cL_kind 3 = .ok (.iload_n 1, 1) := by decide +kernel
theorem dL_kind_4 : decode cL_kind 4 = .ok (.invokevirtual 52, 3) := by decide +kernel
theorem dL_kind_7 : decode cL_kind 7 = .ok (.i2l, 1) := by decide +kernel
theorem dL_kind_8 : decode cL_kind 8 = .ok (.lastore, 1) := by decide +kernel
theorem dL_kind_9 : decode cL_kind 9 = .ok (.goto 6, 3) := by decide +kernel
theorem dL_kind_12 : decode cL_kind 12 = .ok (.astore_n 3, 1) := by decide +kernel
theorem dL_kind_13 : decode cL_kind 13 = .ok (.iconst 1, 1) := by decide +kernel
theorem dL_kind_14 : decode cL_kind 14 = .ok (.ireturn, 1) := by decide +kernel
theorem dL_kind_15 : decode cL_kind 15 = .ok (.iconst 0, 1) := by decide +kernel
theorem dL_kind_16 : decode cL_kind 16 = .ok (.ireturn, 1) := by decide +kernel
theorem dL_rows_0 : decode cL_rows 0 = .ok (.aload_n 2, 1) := by decide +kernel
theorem dL_rows_1 : decode cL_rows 1 = .ok (.iconst 0, 1) := by decide +kernel
theorem dL_rows_2 : decode cL_rows 2 = .ok (.aload_n 0, 1) := by decide +kernel
theorem dL_rows_3 : decode cL_rows 3 = .ok (.iload_n 1, 1) := by decide +kernel
theorem dL_rows_4 : decode cL_rows 4 = .ok (.invokevirtual 56, 3) := by decide +kernel
theorem dL_rows_7 : decode cL_rows 7 = .ok (.i2l, 1) := by decide +kernel
theorem dL_rows_8 : decode cL_rows 8 = .ok (.lastore, 1) := by decide +kernel
theorem dL_rows_9 : decode cL_rows 9 = .ok (.goto 6, 3) := by decide +kernel
theorem dL_rows_12 : decode cL_rows 12 = .ok (.astore_n 3, 1) := by decide +kernel
theorem dL_rows_13 : decode cL_rows 13 = .ok (.iconst 1, 1) := by decide +kernel
theorem dL_rows_14 : decode cL_rows 14 = .ok (.ireturn, 1) := by decide +kernel
theorem dL_rows_15 : decode cL_rows 15 = .ok (.iconst 0, 1) := by decide +kernel
theorem dL_rows_16 : decode cL_rows 16 = .ok (.ireturn, 1) := by decide +kernel
theorem dL_columns_0 : decode cL_columns 0 = .ok (.aload_n 2, 1) := by decide +kernel
theorem dL_columns_1 : decode cL_columns 1 = .ok (.iconst 0, 1) := by decide +kernel
theorem dL_columns_2 : decode cL_columns 2 = .ok (.aload_n 0, 1) := by decide +kernel
theorem dL_columns_3 : decode cL_columns 3 = .ok (.iload_n 1, 1) := by decide +kernel
theorem dL_columns_4 : decode cL_columns 4 = .ok (.invokevirtual 59, 3) := by decide +kernel
theorem dL_columns_7 : decode cL_columns 7 = .ok (.i2l, 1) := by decide +kernel
theorem dL_columns_8 : decode cL_columns 8 = .ok (.lastore, 1) := by decide +kernel
theorem dL_columns_9 : decode cL_columns 9 = .ok (.goto 6, 3) := by decide +kernel
theorem dL_columns_12 : decode cL_columns 12 = .ok (.astore_n 3, 1) := by decide +kernel
theorem dL_columns_13 : decode cL_columns 13 = .ok (.iconst 1, 1) := by decide +kernel
theorem dL_columns_14 : decode cL_columns 14 = .ok (.ireturn, 1) := by decide +kernel
theorem dL_columns_15 : decode cL_columns 15 = .ok (.iconst 0, 1) := by decide +kernel
theorem dL_columns_16 : decode cL_columns 16 = .ok (.ireturn, 1) := by decide +kernel
theorem dL_note_0 : decode cL_note 0 = .ok (.aload 4, 2) := by decide +kernel
theorem dL_note_2 : decode cL_note 2 = .ok (.iconst 0, 1) := by decide +kernel
theorem dL_note_3 : decode cL_note 3 = .ok (.aload_n 0, 1) := by decide +kernel
theorem dL_note_4 : decode cL_note 4 = .ok (.iload_n 1, 1) := by decide +kernel
theorem dL_note_5 : decode cL_note 5 = .ok (.iload_n 2, 1) := by decide +kernel
theorem dL_note_6 : decode cL_note 6 = .ok (.iload_n 3, 1) := by decide +kernel
theorem dL_note_7 : decode cL_note 7 = .ok (.invokevirtual 62, 3) := by decide +kernel
theorem dL_note_10 : decode cL_note 10 = .ok (.i2l, 1) := by decide +kernel
theorem dL_note_11 : decode cL_note 11 = .ok (.lastore, 1) := by decide +kernel
theorem dL_note_12 : decode cL_note 12 = .ok (.goto 7, 3) := by decide +kernel
theorem dL_note_15 : decode cL_note 15 = .ok (.astore 5, 2) := by decide +kernel
theorem dL_note_17 : decode cL_note 17 = .ok (.iconst 1, 1) := by decide +kernel
theorem dL_note_18 : decode cL_note 18 = .ok (.ireturn, 1) := by decide +kernel
theorem dL_note_19 : decode cL_note 19 = .ok (.iconst 0, 1) := by decide +kernel
theorem dL_note_20 : decode cL_note 20 = .ok (.ireturn, 1) := by decide +kernel
theorem dL_isMasked_0 : decode cL_isMasked 0 = .ok (.aload_n 3, 1) := by decide +kernel
theorem dL_isMasked_1 : decode cL_isMasked 1 = .ok (.iconst 0, 1) := by decide +kernel
theorem dL_isMasked_2 : decode cL_isMasked 2 = .ok (.aload_n 0, 1) := by decide +kernel
theorem dL_isMasked_3 : decode cL_isMasked 3 = .ok (.iload_n 1, 1) := by decide +kernel
theorem dL_isMasked_4 : decode cL_isMasked 4 = .ok (.iload_n 2, 1) := by decide +kernel
theorem dL_isMasked_5 : decode cL_isMasked 5 = .ok (.invokevirtual 66, 3) := by decide +kernel
theorem dL_isMasked_8 : decode cL_isMasked 8 = .ok (.ifCond .eq 7, 3) := by decide +kernel
theorem dL_isMasked_11 : decode cL_isMasked 11 = .ok (.lconst 1, 1) := by decide +kernel
theorem dL_isMasked_12 : decode cL_isMasked 12 = .ok (.goto 4, 3) := by decide +kernel
theorem dL_isMasked_15 : decode cL_isMasked 15 = .ok (.lconst 0, 1) := by decide +kernel
theorem dL_isMasked_16 : decode cL_isMasked 16 = .ok (.lastore, 1) := by decide +kernel
theorem dL_isMasked_17 : decode cL_isMasked 17 = .ok (.goto 11, 3) := by decide +kernel
theorem dL_isMasked_20 : decode cL_isMasked 20 = .ok (.astore 4, 2) := by decide +kernel
theorem dL_isMasked_22 : decode cL_isMasked 22 = .ok (.iconst 1, 1) := by decide +kernel
theorem dL_isMasked_23 : decode cL_isMasked 23 = .ok (.ireturn, 1) := by decide +kernel
theorem dL_isMasked_24 : decode cL_isMasked 24 = .ok (.astore 4, 2) := by decide +kernel
theorem dL_isMasked_26 : decode cL_isMasked 26 = .ok (.iconst 2, 1) := by decide +kernel
theorem dL_isMasked_27 : decode cL_isMasked 27 = .ok (.ireturn, 1) := by decide +kernel
theorem dL_isMasked_28 : decode cL_isMasked 28 = .ok (.iconst 0, 1) := by decide +kernel
theorem dL_isMasked_29 : decode cL_isMasked 29 = .ok (.ireturn, 1) := by decide +kernel
theorem dL_fatigue_0 : decode cL_fatigue 0 = .ok (.aload_n 2, 1) := by decide +kernel
theorem dL_fatigue_1 : decode cL_fatigue 1 = .ok (.iconst 0, 1) := by decide +kernel
theorem dL_fatigue_2 : decode cL_fatigue 2 = .ok (.aload_n 0, 1) := by decide +kernel
theorem dL_fatigue_3 : decode cL_fatigue 3 = .ok (.iload_n 1, 1) := by decide +kernel
theorem dL_fatigue_4 : decode cL_fatigue 4 = .ok (.invokevirtual 70, 3) := by decide +kernel
theorem dL_fatigue_7 : decode cL_fatigue 7 = .ok (.i2l, 1) := by decide +kernel
theorem dL_fatigue_8 : decode cL_fatigue 8 = .ok (.lastore, 1) := by decide +kernel
theorem dL_fatigue_9 : decode cL_fatigue 9 = .ok (.goto 6, 3) := by decide +kernel
theorem dL_fatigue_12 : decode cL_fatigue 12 = .ok (.astore_n 3, 1) := by decide +kernel
theorem dL_fatigue_13 : decode cL_fatigue 13 = .ok (.iconst 1, 1) := by decide +kernel
theorem dL_fatigue_14 : decode cL_fatigue 14 = .ok (.ireturn, 1) := by decide +kernel
theorem dL_fatigue_15 : decode cL_fatigue 15 = .ok (.iconst 0, 1) := by decide +kernel
theorem dL_fatigue_16 : decode cL_fatigue 16 = .ok (.ireturn, 1) := by decide +kernel
theorem dL_restingBeats_0 : decode cL_restingBeats 0 = .ok (.aload_n 2, 1) := by decide +kernel
theorem dL_restingBeats_1 : decode cL_restingBeats 1 = .ok (.iconst 0, 1) := by decide +kernel
theorem dL_restingBeats_2 : decode cL_restingBeats 2 = .ok (.aload_n 0, 1) := by decide +kernel
theorem dL_restingBeats_3 : decode cL_restingBeats 3 = .ok (.iload_n 1, 1) := by decide +kernel
theorem dL_restingBeats_4 : decode cL_restingBeats 4 = .ok (.invokevirtual 73, 3) := by decide +kernel
theorem dL_restingBeats_7 : decode cL_restingBeats 7 = .ok (.i2l, 1) := by decide +kernel
theorem dL_restingBeats_8 : decode cL_restingBeats 8 = .ok (.lastore, 1) := by decide +kernel
theorem dL_restingBeats_9 : decode cL_restingBeats 9 = .ok (.goto 6, 3) := by decide +kernel
theorem dL_restingBeats_12 : decode cL_restingBeats 12 = .ok (.astore_n 3, 1) := by decide +kernel
theorem dL_restingBeats_13 : decode cL_restingBeats 13 = .ok (.iconst 1, 1) := by decide +kernel
theorem dL_restingBeats_14 : decode cL_restingBeats 14 = .ok (.ireturn, 1) := by decide +kernel
theorem dL_restingBeats_15 : decode cL_restingBeats 15 = .ok (.iconst 0, 1) := by decide +kernel
theorem dL_restingBeats_16 : decode cL_restingBeats 16 = .ok (.ireturn, 1) := by decide +kernel
theorem dL_isSymmetric_0 : decode cL_isSymmetric 0 = .ok (.aload_n 2, 1) := by decide +kernel
theorem dL_isSymmetric_1 : decode cL_isSymmetric 1 = .ok (.iconst 0, 1) := by decide +kernel
theorem dL_isSymmetric_2 : decode cL_isSymmetric 2 = .ok (.aload_n 0, 1) := by decide +kernel
theorem dL_isSymmetric_3 : decode cL_isSymmetric 3 = .ok (.iload_n 1, 1) := by decide +kernel
theorem dL_isSymmetric_4 : decode cL_isSymmetric 4 = .ok (.invokevirtual 76, 3) := by decide +kernel
theorem dL_isSymmetric_7 : decode cL_isSymmetric 7 = .ok (.ifCond .eq 7, 3) := by decide +kernel
theorem dL_isSymmetric_10 : decode cL_isSymmetric 10 = .ok (.lconst 1, 1) := by decide +kernel
theorem dL_isSymmetric_11 : decode cL_isSymmetric 11 = .ok (.goto 4, 3) := by decide +kernel
theorem dL_isSymmetric_14 : decode cL_isSymmetric 14 = .ok (.lconst 0, 1) := by decide +kernel
theorem dL_isSymmetric_15 : decode cL_isSymmetric 15 = .ok (.lastore, 1) := by decide +kernel
theorem dL_isSymmetric_16 : decode cL_isSymmetric 16 = .ok (.goto 6, 3) := by decide +kernel
theorem dL_isSymmetric_19 : decode cL_isSymmetric 19 = .ok (.astore_n 3, 1) := by decide +kernel
theorem dL_isSymmetric_20 : decode cL_isSymmetric 20 = .ok (.iconst 1, 1) := by decide +kernel
theorem dL_isSymmetric_21 : decode cL_isSymmetric 21 = .ok (.ireturn, 1) := by decide +kernel
theorem dL_isSymmetric_22 : decode cL_isSymmetric 22 = .ok (.iconst 0, 1) := by decide +kernel
theorem dL_isSymmetric_23 : decode cL_isSymmetric 23 = .ok (.ireturn, 1) := by decide +kernel
theorem dL_areAlike_0 : decode cL_areAlike 0 = .ok (.aload_n 3, 1) := by decide +kernel
theorem dL_areAlike_1 : decode cL_areAlike 1 = .ok (.iconst 0, 1) := by decide +kernel
theorem dL_areAlike_2 : decode cL_areAlike 2 = .ok (.aload_n 0, 1) := by decide +kernel
theorem dL_areAlike_3 : decode cL_areAlike 3 = .ok (.iload_n 1, 1) := by decide +kernel
theorem dL_areAlike_4 : decode cL_areAlike 4 = .ok (.iload_n 2, 1) := by decide +kernel
theorem dL_areAlike_5 : decode cL_areAlike 5 = .ok (.invokevirtual 80, 3) := by decide +kernel
theorem dL_areAlike_8 : decode cL_areAlike 8 = .ok (.ifCond .eq 7, 3) := by decide +kernel
theorem dL_areAlike_11 : decode cL_areAlike 11 = .ok (.lconst 1, 1) := by decide +kernel
theorem dL_areAlike_12 : decode cL_areAlike 12 = .ok (.goto 4, 3) := by decide +kernel
theorem dL_areAlike_15 : decode cL_areAlike 15 = .ok (.lconst 0, 1) := by decide +kernel
theorem dL_areAlike_16 : decode cL_areAlike 16 = .ok (.lastore, 1) := by decide +kernel
theorem dL_areAlike_17 : decode cL_areAlike 17 = .ok (.goto 7, 3) := by decide +kernel
theorem dL_areAlike_20 : decode cL_areAlike 20 = .ok (.astore 4, 2) := by decide +kernel
theorem dL_areAlike_22 : decode cL_areAlike 22 = .ok (.iconst 1, 1) := by decide +kernel
theorem dL_areAlike_23 : decode cL_areAlike 23 = .ok (.ireturn, 1) := by decide +kernel
theorem dL_areAlike_24 : decode cL_areAlike 24 = .ok (.iconst 0, 1) := by decide +kernel
theorem dL_areAlike_25 : decode cL_areAlike 25 = .ok (.ireturn, 1) := by decide +kernel
theorem dL_noteVolume_0 : decode cL_noteVolume 0 = .ok (.aload_n 3, 1) := by decide +kernel
theorem dL_noteVolume_1 : decode cL_noteVolume 1 = .ok (.iconst 0, 1) := by decide +kernel
theorem dL_noteVolume_2 : decode cL_noteVolume 2 = .ok (.aload_n 0, 1) := by decide +kernel
theorem dL_noteVolume_3 : decode cL_noteVolume 3 = .ok (.iload_n 1, 1) := by decide +kernel
theorem dL_noteVolume_4 : decode cL_noteVolume 4 = .ok (.iload_n 2, 1) := by decide +kernel
theorem dL_noteVolume_5 : decode cL_noteVolume 5 = .ok (.invokevirtual 83, 3) := by decide +kernel
theorem dL_noteVolume_8 : decode cL_noteVolume 8 = .ok (.i2l, 1) := by decide +kernel
theorem dL_noteVolume_9 : decode cL_noteVolume 9 = .ok (.lastore, 1) := by decide +kernel
theorem dL_noteVolume_10 : decode cL_noteVolume 10 = .ok (.goto 7, 3) := by decide +kernel
theorem dL_noteVolume_13 : decode cL_noteVolume 13 = .ok (.astore 4, 2) := by decide +kernel
theorem dL_noteVolume_15 : decode cL_noteVolume 15 = .ok (.iconst 1, 1) := by decide +kernel
theorem dL_noteVolume_16 : decode cL_noteVolume 16 = .ok (.ireturn, 1) := by decide +kernel
theorem dL_noteVolume_17 : decode cL_noteVolume 17 = .ok (.iconst 0, 1) := by decide +kernel
theorem dL_noteVolume_18 : decode cL_noteVolume 18 = .ok (.ireturn, 1) := by decide +kernel
theorem dL_columnVolume_0 : decode cL_columnVolume 0 = .ok (.aload_n 3, 1) := by decide +kernel
theorem dL_columnVolume_1 : decode cL_columnVolume 1 = .ok (.iconst 0, 1) := by decide +kernel
theorem dL_columnVolume_2 : decode cL_columnVolume 2 = .ok (.aload_n 0, 1) := by decide +kernel
theorem dL_columnVolume_3 : decode cL_columnVolume 3 = .ok (.iload_n 1, 1) := by decide +kernel
theorem dL_columnVolume_4 : decode cL_columnVolume 4 = .ok (.iload_n 2, 1) := by decide +kernel
theorem dL_columnVolume_5 : decode cL_columnVolume 5 = .ok (.invokevirtual 87, 3) := by decide +kernel
theorem dL_columnVolume_8 : decode cL_columnVolume 8 = .ok (.i2l, 1) := by decide +kernel
theorem dL_columnVolume_9 : decode cL_columnVolume 9 = .ok (.lastore, 1) := by decide +kernel
theorem dL_columnVolume_10 : decode cL_columnVolume 10 = .ok (.goto 7, 3) := by decide +kernel
theorem dL_columnVolume_13 : decode cL_columnVolume 13 = .ok (.astore 4, 2) := by decide +kernel
theorem dL_columnVolume_15 : decode cL_columnVolume 15 = .ok (.iconst 1, 1) := by decide +kernel
theorem dL_columnVolume_16 : decode cL_columnVolume 16 = .ok (.ireturn, 1) := by decide +kernel
theorem dL_columnVolume_17 : decode cL_columnVolume 17 = .ok (.iconst 0, 1) := by decide +kernel
theorem dL_columnVolume_18 : decode cL_columnVolume 18 = .ok (.ireturn, 1) := by decide +kernel
theorem dL_columnVolumeByTransposing_0 : decode cL_columnVolumeByTransposing 0 = .ok (.aload_n 3, 1) := by decide +kernel
theorem dL_columnVolumeByTransposing_1 : decode cL_columnVolumeByTransposing 1 = .ok (.iconst 0, 1) := by decide +kernel
theorem dL_columnVolumeByTransposing_2 : decode cL_columnVolumeByTransposing 2 = .ok (.aload_n 0, 1) := by decide +kernel
theorem dL_columnVolumeByTransposing_3 : decode cL_columnVolumeByTransposing 3 = .ok (.iload_n 1, 1) := by decide +kernel
theorem dL_columnVolumeByTransposing_4 : decode cL_columnVolumeByTransposing 4 = .ok (.iload_n 2, 1) := by decide +kernel
theorem dL_columnVolumeByTransposing_5 : decode cL_columnVolumeByTransposing 5 = .ok (.invokevirtual 90, 3) := by decide +kernel
theorem dL_columnVolumeByTransposing_8 : decode cL_columnVolumeByTransposing 8 = .ok (.i2l, 1) := by decide +kernel
theorem dL_columnVolumeByTransposing_9 : decode cL_columnVolumeByTransposing 9 = .ok (.lastore, 1) := by decide +kernel
theorem dL_columnVolumeByTransposing_10 : decode cL_columnVolumeByTransposing 10 = .ok (.goto 7, 3) := by decide +kernel
theorem dL_columnVolumeByTransposing_13 : decode cL_columnVolumeByTransposing 13 = .ok (.astore 4, 2) := by decide +kernel
theorem dL_columnVolumeByTransposing_15 : decode cL_columnVolumeByTransposing 15 = .ok (.iconst 1, 1) := by decide +kernel
theorem dL_columnVolumeByTransposing_16 : decode cL_columnVolumeByTransposing 16 = .ok (.ireturn, 1) := by decide +kernel
theorem dL_columnVolumeByTransposing_17 : decode cL_columnVolumeByTransposing 17 = .ok (.iconst 0, 1) := by decide +kernel
theorem dL_columnVolumeByTransposing_18 : decode cL_columnVolumeByTransposing 18 = .ok (.ireturn, 1) := by decide +kernel
theorem dL_nextVolume_0 : decode cL_nextVolume 0 = .ok (.aload_n 2, 1) := by decide +kernel
theorem dL_nextVolume_1 : decode cL_nextVolume 1 = .ok (.iconst 0, 1) := by decide +kernel
theorem dL_nextVolume_2 : decode cL_nextVolume 2 = .ok (.aload_n 0, 1) := by decide +kernel
theorem dL_nextVolume_3 : decode cL_nextVolume 3 = .ok (.iload_n 1, 1) := by decide +kernel
theorem dL_nextVolume_4 : decode cL_nextVolume 4 = .ok (.invokevirtual 93, 3) := by decide +kernel
theorem dL_nextVolume_7 : decode cL_nextVolume 7 = .ok (.i2l, 1) := by decide +kernel
theorem dL_nextVolume_8 : decode cL_nextVolume 8 = .ok (.lastore, 1) := by decide +kernel
theorem dL_nextVolume_9 : decode cL_nextVolume 9 = .ok (.goto 6, 3) := by decide +kernel
theorem dL_nextVolume_12 : decode cL_nextVolume 12 = .ok (.astore_n 3, 1) := by decide +kernel
theorem dL_nextVolume_13 : decode cL_nextVolume 13 = .ok (.iconst 1, 1) := by decide +kernel
theorem dL_nextVolume_14 : decode cL_nextVolume 14 = .ok (.ireturn, 1) := by decide +kernel
theorem dL_nextVolume_15 : decode cL_nextVolume 15 = .ok (.iconst 0, 1) := by decide +kernel
theorem dL_nextVolume_16 : decode cL_nextVolume 16 = .ok (.ireturn, 1) := by decide +kernel
theorem dL_beatsUntilBreak_0 : decode cL_beatsUntilBreak 0 = .ok (.aload_n 1, 1) := by decide +kernel
theorem dL_beatsUntilBreak_1 : decode cL_beatsUntilBreak 1 = .ok (.iconst 0, 1) := by decide +kernel
theorem dL_beatsUntilBreak_2 : decode cL_beatsUntilBreak 2 = .ok (.aload_n 0, 1) := by decide +kernel
theorem dL_beatsUntilBreak_3 : decode cL_beatsUntilBreak 3 = .ok (.invokevirtual 96, 3) := by decide +kernel
theorem dL_beatsUntilBreak_6 : decode cL_beatsUntilBreak 6 = .ok (.i2l, 1) := by decide +kernel
theorem dL_beatsUntilBreak_7 : decode cL_beatsUntilBreak 7 = .ok (.lastore, 1) := by decide +kernel
theorem dL_beatsUntilBreak_8 : decode cL_beatsUntilBreak 8 = .ok (.goto 6, 3) := by decide +kernel
theorem dL_beatsUntilBreak_11 : decode cL_beatsUntilBreak 11 = .ok (.astore_n 2, 1) := by decide +kernel
theorem dL_beatsUntilBreak_12 : decode cL_beatsUntilBreak 12 = .ok (.iconst 1, 1) := by decide +kernel
theorem dL_beatsUntilBreak_13 : decode cL_beatsUntilBreak 13 = .ok (.ireturn, 1) := by decide +kernel
theorem dL_beatsUntilBreak_14 : decode cL_beatsUntilBreak 14 = .ok (.iconst 0, 1) := by decide +kernel
theorem dL_beatsUntilBreak_15 : decode cL_beatsUntilBreak 15 = .ok (.ireturn, 1) := by decide +kernel
theorem dL_totalWithin_0 : decode cL_totalWithin 0 = .ok (.aload_n 2, 1) := by decide +kernel
theorem dL_totalWithin_1 : decode cL_totalWithin 1 = .ok (.iconst 0, 1) := by decide +kernel
theorem dL_totalWithin_2 : decode cL_totalWithin 2 = .ok (.aload_n 0, 1) := by decide +kernel
theorem dL_totalWithin_3 : decode cL_totalWithin 3 = .ok (.iload_n 1, 1) := by decide +kernel
theorem dL_totalWithin_4 : decode cL_totalWithin 4 = .ok (.invokevirtual 102, 3) := by decide +kernel
theorem dL_totalWithin_7 : decode cL_totalWithin 7 = .ok (.i2l, 1) := by decide +kernel
theorem dL_totalWithin_8 : decode cL_totalWithin 8 = .ok (.lastore, 1) := by decide +kernel
theorem dL_totalWithin_9 : decode cL_totalWithin 9 = .ok (.goto 6, 3) := by decide +kernel
theorem dL_totalWithin_12 : decode cL_totalWithin 12 = .ok (.astore_n 3, 1) := by decide +kernel
theorem dL_totalWithin_13 : decode cL_totalWithin 13 = .ok (.iconst 1, 1) := by decide +kernel
theorem dL_totalWithin_14 : decode cL_totalWithin 14 = .ok (.ireturn, 1) := by decide +kernel
theorem dL_totalWithin_15 : decode cL_totalWithin 15 = .ok (.iconst 0, 1) := by decide +kernel
theorem dL_totalWithin_16 : decode cL_totalWithin 16 = .ok (.ireturn, 1) := by decide +kernel
theorem dL_playedVolume_0 : decode cL_playedVolume 0 = .ok (.aload_n 2, 1) := by decide +kernel
theorem dL_playedVolume_1 : decode cL_playedVolume 1 = .ok (.iconst 0, 1) := by decide +kernel
theorem dL_playedVolume_2 : decode cL_playedVolume 2 = .ok (.aload_n 0, 1) := by decide +kernel
theorem dL_playedVolume_3 : decode cL_playedVolume 3 = .ok (.iload_n 1, 1) := by decide +kernel
theorem dL_playedVolume_4 : decode cL_playedVolume 4 = .ok (.invokevirtual 105, 3) := by decide +kernel
theorem dL_playedVolume_7 : decode cL_playedVolume 7 = .ok (.i2l, 1) := by decide +kernel
theorem dL_playedVolume_8 : decode cL_playedVolume 8 = .ok (.lastore, 1) := by decide +kernel
theorem dL_playedVolume_9 : decode cL_playedVolume 9 = .ok (.goto 6, 3) := by decide +kernel
theorem dL_playedVolume_12 : decode cL_playedVolume 12 = .ok (.astore_n 3, 1) := by decide +kernel
theorem dL_playedVolume_13 : decode cL_playedVolume 13 = .ok (.iconst 1, 1) := by decide +kernel
theorem dL_playedVolume_14 : decode cL_playedVolume 14 = .ok (.ireturn, 1) := by decide +kernel
theorem dL_playedVolume_15 : decode cL_playedVolume 15 = .ok (.iconst 0, 1) := by decide +kernel
theorem dL_playedVolume_16 : decode cL_playedVolume 16 = .ok (.ireturn, 1) := by decide +kernel
theorem dL_soundCount_0 : decode cL_soundCount 0 = .ok (.aload_n 3, 1) := by decide +kernel
theorem dL_soundCount_1 : decode cL_soundCount 1 = .ok (.iconst 0, 1) := by decide +kernel
theorem dL_soundCount_2 : decode cL_soundCount 2 = .ok (.aload_n 0, 1) := by decide +kernel
theorem dL_soundCount_3 : decode cL_soundCount 3 = .ok (.iload_n 1, 1) := by decide +kernel
theorem dL_soundCount_4 : decode cL_soundCount 4 = .ok (.iload_n 2, 1) := by decide +kernel
theorem dL_soundCount_5 : decode cL_soundCount 5 = .ok (.invokevirtual 108, 3) := by decide +kernel
theorem dL_soundCount_8 : decode cL_soundCount 8 = .ok (.i2l, 1) := by decide +kernel
theorem dL_soundCount_9 : decode cL_soundCount 9 = .ok (.lastore, 1) := by decide +kernel
theorem dL_soundCount_10 : decode cL_soundCount 10 = .ok (.goto 7, 3) := by decide +kernel
theorem dL_soundCount_13 : decode cL_soundCount 13 = .ok (.astore 4, 2) := by decide +kernel
theorem dL_soundCount_15 : decode cL_soundCount 15 = .ok (.iconst 1, 1) := by decide +kernel
theorem dL_soundCount_16 : decode cL_soundCount 16 = .ok (.ireturn, 1) := by decide +kernel
theorem dL_soundCount_17 : decode cL_soundCount 17 = .ok (.iconst 0, 1) := by decide +kernel
theorem dL_soundCount_18 : decode cL_soundCount 18 = .ok (.ireturn, 1) := by decide +kernel
theorem dL_greatestTotal_0 : decode cL_greatestTotal 0 = .ok (.aload_n 1, 1) := by decide +kernel
theorem dL_greatestTotal_1 : decode cL_greatestTotal 1 = .ok (.iconst 0, 1) := by decide +kernel
theorem dL_greatestTotal_2 : decode cL_greatestTotal 2 = .ok (.aload_n 0, 1) := by decide +kernel
theorem dL_greatestTotal_3 : decode cL_greatestTotal 3 = .ok (.invokevirtual 111, 3) := by decide +kernel
theorem dL_greatestTotal_6 : decode cL_greatestTotal 6 = .ok (.i2l, 1) := by decide +kernel
theorem dL_greatestTotal_7 : decode cL_greatestTotal 7 = .ok (.lastore, 1) := by decide +kernel
theorem dL_greatestTotal_8 : decode cL_greatestTotal 8 = .ok (.goto 6, 3) := by decide +kernel
theorem dL_greatestTotal_11 : decode cL_greatestTotal 11 = .ok (.astore_n 2, 1) := by decide +kernel
theorem dL_greatestTotal_12 : decode cL_greatestTotal 12 = .ok (.iconst 1, 1) := by decide +kernel
theorem dL_greatestTotal_13 : decode cL_greatestTotal 13 = .ok (.ireturn, 1) := by decide +kernel
theorem dL_greatestTotal_14 : decode cL_greatestTotal 14 = .ok (.iconst 0, 1) := by decide +kernel
theorem dL_greatestTotal_15 : decode cL_greatestTotal 15 = .ok (.ireturn, 1) := by decide +kernel
theorem dL_loggedTotal_0 : decode cL_loggedTotal 0 = .ok (.aload_n 2, 1) := by decide +kernel
theorem dL_loggedTotal_1 : decode cL_loggedTotal 1 = .ok (.iconst 0, 1) := by decide +kernel
theorem dL_loggedTotal_2 : decode cL_loggedTotal 2 = .ok (.aload_n 0, 1) := by decide +kernel
theorem dL_loggedTotal_3 : decode cL_loggedTotal 3 = .ok (.iload_n 1, 1) := by decide +kernel
theorem dL_loggedTotal_4 : decode cL_loggedTotal 4 = .ok (.invokevirtual 114, 3) := by decide +kernel
theorem dL_loggedTotal_7 : decode cL_loggedTotal 7 = .ok (.i2l, 1) := by decide +kernel
theorem dL_loggedTotal_8 : decode cL_loggedTotal 8 = .ok (.lastore, 1) := by decide +kernel
theorem dL_loggedTotal_9 : decode cL_loggedTotal 9 = .ok (.goto 6, 3) := by decide +kernel
theorem dL_loggedTotal_12 : decode cL_loggedTotal 12 = .ok (.astore_n 3, 1) := by decide +kernel
theorem dL_loggedTotal_13 : decode cL_loggedTotal 13 = .ok (.iconst 1, 1) := by decide +kernel
theorem dL_loggedTotal_14 : decode cL_loggedTotal 14 = .ok (.ireturn, 1) := by decide +kernel
theorem dL_loggedTotal_15 : decode cL_loggedTotal 15 = .ok (.iconst 0, 1) := by decide +kernel
theorem dL_loggedTotal_16 : decode cL_loggedTotal 16 = .ok (.ireturn, 1) := by decide +kernel
theorem dL_sectionByVolume_0 : decode cL_sectionByVolume 0 = .ok (.aload_n 2, 1) := by decide +kernel
theorem dL_sectionByVolume_1 : decode cL_sectionByVolume 1 = .ok (.iconst 0, 1) := by decide +kernel
theorem dL_sectionByVolume_2 : decode cL_sectionByVolume 2 = .ok (.aload_n 0, 1) := by decide +kernel
theorem dL_sectionByVolume_3 : decode cL_sectionByVolume 3 = .ok (.iload_n 1, 1) := by decide +kernel
theorem dL_sectionByVolume_4 : decode cL_sectionByVolume 4 = .ok (.invokevirtual 117, 3) := by decide +kernel
theorem dL_sectionByVolume_7 : decode cL_sectionByVolume 7 = .ok (.i2l, 1) := by decide +kernel
theorem dL_sectionByVolume_8 : decode cL_sectionByVolume 8 = .ok (.lastore, 1) := by decide +kernel
theorem dL_sectionByVolume_9 : decode cL_sectionByVolume 9 = .ok (.goto 6, 3) := by decide +kernel
theorem dL_sectionByVolume_12 : decode cL_sectionByVolume 12 = .ok (.astore_n 3, 1) := by decide +kernel
theorem dL_sectionByVolume_13 : decode cL_sectionByVolume 13 = .ok (.iconst 1, 1) := by decide +kernel
theorem dL_sectionByVolume_14 : decode cL_sectionByVolume 14 = .ok (.ireturn, 1) := by decide +kernel
theorem dL_sectionByVolume_15 : decode cL_sectionByVolume 15 = .ok (.iconst 0, 1) := by decide +kernel
theorem dL_sectionByVolume_16 : decode cL_sectionByVolume 16 = .ok (.ireturn, 1) := by decide +kernel
theorem dL_noteBySounds_0 : decode cL_noteBySounds 0 = .ok (.aload_n 2, 1) := by decide +kernel
theorem dL_noteBySounds_1 : decode cL_noteBySounds 1 = .ok (.iconst 0, 1) := by decide +kernel
theorem dL_noteBySounds_2 : decode cL_noteBySounds 2 = .ok (.aload_n 0, 1) := by decide +kernel
theorem dL_noteBySounds_3 : decode cL_noteBySounds 3 = .ok (.iload_n 1, 1) := by decide +kernel
theorem dL_noteBySounds_4 : decode cL_noteBySounds 4 = .ok (.invokevirtual 120, 3) := by decide +kernel
theorem dL_noteBySounds_7 : decode cL_noteBySounds 7 = .ok (.i2l, 1) := by decide +kernel
theorem dL_noteBySounds_8 : decode cL_noteBySounds 8 = .ok (.lastore, 1) := by decide +kernel
theorem dL_noteBySounds_9 : decode cL_noteBySounds 9 = .ok (.goto 6, 3) := by decide +kernel
theorem dL_noteBySounds_12 : decode cL_noteBySounds 12 = .ok (.astore_n 3, 1) := by decide +kernel
theorem dL_noteBySounds_13 : decode cL_noteBySounds 13 = .ok (.iconst 1, 1) := by decide +kernel
theorem dL_noteBySounds_14 : decode cL_noteBySounds 14 = .ok (.ireturn, 1) := by decide +kernel
theorem dL_noteBySounds_15 : decode cL_noteBySounds 15 = .ok (.iconst 0, 1) := by decide +kernel
theorem dL_noteBySounds_16 : decode cL_noteBySounds 16 = .ok (.ireturn, 1) := by decide +kernel
theorem dL_meanTotal_0 : decode cL_meanTotal 0 = .ok (.aload_n 1, 1) := by decide +kernel
theorem dL_meanTotal_1 : decode cL_meanTotal 1 = .ok (.iconst 0, 1) := by decide +kernel
theorem dL_meanTotal_2 : decode cL_meanTotal 2 = .ok (.aload_n 0, 1) := by decide +kernel
theorem dL_meanTotal_3 : decode cL_meanTotal 3 = .ok (.invokevirtual 123, 3) := by decide +kernel
theorem dL_meanTotal_6 : decode cL_meanTotal 6 = .ok (.dastore, 1) := by decide +kernel
theorem dL_meanTotal_7 : decode cL_meanTotal 7 = .ok (.goto 6, 3) := by decide +kernel
theorem dL_meanTotal_10 : decode cL_meanTotal 10 = .ok (.astore_n 2, 1) := by decide +kernel
theorem dL_meanTotal_11 : decode cL_meanTotal 11 = .ok (.iconst 1, 1) := by decide +kernel
theorem dL_meanTotal_12 : decode cL_meanTotal 12 = .ok (.ireturn, 1) := by decide +kernel
theorem dL_meanTotal_13 : decode cL_meanTotal 13 = .ok (.iconst 0, 1) := by decide +kernel
theorem dL_meanTotal_14 : decode cL_meanTotal 14 = .ok (.ireturn, 1) := by decide +kernel
theorem dL_maskedShare_0 : decode cL_maskedShare 0 = .ok (.aload_n 2, 1) := by decide +kernel
theorem dL_maskedShare_1 : decode cL_maskedShare 1 = .ok (.iconst 0, 1) := by decide +kernel
theorem dL_maskedShare_2 : decode cL_maskedShare 2 = .ok (.aload_n 0, 1) := by decide +kernel
theorem dL_maskedShare_3 : decode cL_maskedShare 3 = .ok (.iload_n 1, 1) := by decide +kernel
theorem dL_maskedShare_4 : decode cL_maskedShare 4 = .ok (.invokevirtual 129, 3) := by decide +kernel
theorem dL_maskedShare_7 : decode cL_maskedShare 7 = .ok (.f2d, 1) := by decide +kernel
theorem dL_maskedShare_8 : decode cL_maskedShare 8 = .ok (.dastore, 1) := by decide +kernel
theorem dL_maskedShare_9 : decode cL_maskedShare 9 = .ok (.goto 6, 3) := by decide +kernel
theorem dL_maskedShare_12 : decode cL_maskedShare 12 = .ok (.astore_n 3, 1) := by decide +kernel
theorem dL_maskedShare_13 : decode cL_maskedShare 13 = .ok (.iconst 1, 1) := by decide +kernel
theorem dL_maskedShare_14 : decode cL_maskedShare 14 = .ok (.ireturn, 1) := by decide +kernel
theorem dL_maskedShare_15 : decode cL_maskedShare 15 = .ok (.iconst 0, 1) := by decide +kernel
theorem dL_maskedShare_16 : decode cL_maskedShare 16 = .ok (.ireturn, 1) := by decide +kernel
theorem dL_renderScore_0 : decode cL_renderScore 0 = .ok (.aload_n 2, 1) := by decide +kernel
theorem dL_renderScore_1 : decode cL_renderScore 1 = .ok (.iconst 0, 1) := by decide +kernel
theorem dL_renderScore_2 : decode cL_renderScore 2 = .ok (.aload_n 0, 1) := by decide +kernel
theorem dL_renderScore_3 : decode cL_renderScore 3 = .ok (.iload_n 1, 1) := by decide +kernel
theorem dL_renderScore_4 : decode cL_renderScore 4 = .ok (.invokevirtual 133, 3) := by decide +kernel
theorem dL_renderScore_7 : decode cL_renderScore 7 = .ok (.i2l, 1) := by decide +kernel
theorem dL_renderScore_8 : decode cL_renderScore 8 = .ok (.lastore, 1) := by decide +kernel
theorem dL_renderScore_9 : decode cL_renderScore 9 = .ok (.goto 6, 3) := by decide +kernel
theorem dL_renderScore_12 : decode cL_renderScore 12 = .ok (.astore_n 3, 1) := by decide +kernel
theorem dL_renderScore_13 : decode cL_renderScore 13 = .ok (.iconst 1, 1) := by decide +kernel
theorem dL_renderScore_14 : decode cL_renderScore 14 = .ok (.ireturn, 1) := by decide +kernel
theorem dL_renderScore_15 : decode cL_renderScore 15 = .ok (.iconst 0, 1) := by decide +kernel
theorem dL_renderScore_16 : decode cL_renderScore 16 = .ok (.ireturn, 1) := by decide +kernel
theorem dL_renderMask_0 : decode cL_renderMask 0 = .ok (.aload_n 2, 1) := by decide +kernel
theorem dL_renderMask_1 : decode cL_renderMask 1 = .ok (.iconst 0, 1) := by decide +kernel
theorem dL_renderMask_2 : decode cL_renderMask 2 = .ok (.aload_n 0, 1) := by decide +kernel
theorem dL_renderMask_3 : decode cL_renderMask 3 = .ok (.iload_n 1, 1) := by decide +kernel
theorem dL_renderMask_4 : decode cL_renderMask 4 = .ok (.invokevirtual 136, 3) := by decide +kernel
theorem dL_renderMask_7 : decode cL_renderMask 7 = .ok (.i2l, 1) := by decide +kernel
theorem dL_renderMask_8 : decode cL_renderMask 8 = .ok (.lastore, 1) := by decide +kernel
theorem dL_renderMask_9 : decode cL_renderMask 9 = .ok (.goto 6, 3) := by decide +kernel
theorem dL_renderMask_12 : decode cL_renderMask 12 = .ok (.astore_n 3, 1) := by decide +kernel
theorem dL_renderMask_13 : decode cL_renderMask 13 = .ok (.iconst 1, 1) := by decide +kernel
theorem dL_renderMask_14 : decode cL_renderMask 14 = .ok (.ireturn, 1) := by decide +kernel
theorem dL_renderMask_15 : decode cL_renderMask 15 = .ok (.iconst 0, 1) := by decide +kernel
theorem dL_renderMask_16 : decode cL_renderMask 16 = .ok (.ireturn, 1) := by decide +kernel
theorem dL_outputAt_0 : decode cL_outputAt 0 = .ok (.aload_n 2, 1) := by decide +kernel
theorem dL_outputAt_1 : decode cL_outputAt 1 = .ok (.iconst 0, 1) := by decide +kernel
theorem dL_outputAt_2 : decode cL_outputAt 2 = .ok (.aload_n 0, 1) := by decide +kernel
theorem dL_outputAt_3 : decode cL_outputAt 3 = .ok (.iload_n 1, 1) := by decide +kernel
theorem dL_outputAt_4 : decode cL_outputAt 4 = .ok (.invokevirtual 139, 3) := by decide +kernel
theorem dL_outputAt_7 : decode cL_outputAt 7 = .ok (.i2l, 1) := by decide +kernel
theorem dL_outputAt_8 : decode cL_outputAt 8 = .ok (.lastore, 1) := by decide +kernel
theorem dL_outputAt_9 : decode cL_outputAt 9 = .ok (.goto 6, 3) := by decide +kernel
theorem dL_outputAt_12 : decode cL_outputAt 12 = .ok (.astore_n 3, 1) := by decide +kernel
theorem dL_outputAt_13 : decode cL_outputAt 13 = .ok (.iconst 1, 1) := by decide +kernel
theorem dL_outputAt_14 : decode cL_outputAt 14 = .ok (.ireturn, 1) := by decide +kernel
theorem dL_outputAt_15 : decode cL_outputAt 15 = .ok (.iconst 0, 1) := by decide +kernel
theorem dL_outputAt_16 : decode cL_outputAt 16 = .ok (.ireturn, 1) := by decide +kernel
theorem dL_type_0 : decode cL_type 0 = .ok (.aload_n 2, 1) := by decide +kernel
theorem dL_type_1 : decode cL_type 1 = .ok (.iconst 0, 1) := by decide +kernel
theorem dL_type_2 : decode cL_type 2 = .ok (.aload_n 0, 1) := by decide +kernel
theorem dL_type_3 : decode cL_type 3 = .ok (.iload_n 1, 1) := by decide +kernel
theorem dL_type_4 : decode cL_type 4 = .ok (.invokevirtual 142, 3) := by decide +kernel
theorem dL_type_7 : decode cL_type 7 = .ok (.i2l, 1) := by decide +kernel
theorem dL_type_8 : decode cL_type 8 = .ok (.lastore, 1) := by decide +kernel
theorem dL_type_9 : decode cL_type 9 = .ok (.goto 9, 3) := by decide +kernel
theorem dL_type_12 : decode cL_type 12 = .ok (.astore_n 3, 1) := by decide +kernel
theorem dL_type_13 : decode cL_type 13 = .ok (.iconst 1, 1) := by decide +kernel
theorem dL_type_14 : decode cL_type 14 = .ok (.ireturn, 1) := by decide +kernel
theorem dL_type_15 : decode cL_type 15 = .ok (.astore_n 3, 1) := by decide +kernel
theorem dL_type_16 : decode cL_type 16 = .ok (.iconst 2, 1) := by decide +kernel
theorem dL_type_17 : decode cL_type 17 = .ok (.ireturn, 1) := by decide +kernel
theorem dL_type_18 : decode cL_type 18 = .ok (.iconst 0, 1) := by decide +kernel
theorem dL_type_19 : decode cL_type 19 = .ok (.ireturn, 1) := by decide +kernel
theorem dL_runScript_0 : decode cL_runScript 0 = .ok (.aload_n 1, 1) := by decide +kernel
theorem dL_runScript_1 : decode cL_runScript 1 = .ok (.iconst 0, 1) := by decide +kernel
theorem dL_runScript_2 : decode cL_runScript 2 = .ok (.aload_n 0, 1) := by decide +kernel
theorem dL_runScript_3 : decode cL_runScript 3 = .ok (.invokevirtual 146, 3) := by decide +kernel
theorem dL_runScript_6 : decode cL_runScript 6 = .ok (.i2l, 1) := by decide +kernel
theorem dL_runScript_7 : decode cL_runScript 7 = .ok (.lastore, 1) := by decide +kernel
theorem dL_runScript_8 : decode cL_runScript 8 = .ok (.goto 9, 3) := by decide +kernel
theorem dL_runScript_11 : decode cL_runScript 11 = .ok (.astore_n 2, 1) := by decide +kernel
theorem dL_runScript_12 : decode cL_runScript 12 = .ok (.iconst 1, 1) := by decide +kernel
theorem dL_runScript_13 : decode cL_runScript 13 = .ok (.ireturn, 1) := by decide +kernel
theorem dL_runScript_14 : decode cL_runScript 14 = .ok (.astore_n 2, 1) := by decide +kernel
theorem dL_runScript_15 : decode cL_runScript 15 = .ok (.iconst 2, 1) := by decide +kernel
theorem dL_runScript_16 : decode cL_runScript 16 = .ok (.ireturn, 1) := by decide +kernel
theorem dL_runScript_17 : decode cL_runScript 17 = .ok (.iconst 0, 1) := by decide +kernel
theorem dL_runScript_18 : decode cL_runScript 18 = .ok (.ireturn, 1) := by decide +kernel
theorem dL_errorPosition_0 : decode cL_errorPosition 0 = .ok (.aload_n 1, 1) := by decide +kernel
theorem dL_errorPosition_1 : decode cL_errorPosition 1 = .ok (.iconst 0, 1) := by decide +kernel
theorem dL_errorPosition_2 : decode cL_errorPosition 2 = .ok (.aload_n 0, 1) := by decide +kernel
theorem dL_errorPosition_3 : decode cL_errorPosition 3 = .ok (.invokevirtual 149, 3) := by decide +kernel
theorem dL_errorPosition_6 : decode cL_errorPosition 6 = .ok (.i2l, 1) := by decide +kernel
theorem dL_errorPosition_7 : decode cL_errorPosition 7 = .ok (.lastore, 1) := by decide +kernel
theorem dL_errorPosition_8 : decode cL_errorPosition 8 = .ok (.goto 6, 3) := by decide +kernel
theorem dL_errorPosition_11 : decode cL_errorPosition 11 = .ok (.astore_n 2, 1) := by decide +kernel
theorem dL_errorPosition_12 : decode cL_errorPosition 12 = .ok (.iconst 1, 1) := by decide +kernel
theorem dL_errorPosition_13 : decode cL_errorPosition 13 = .ok (.ireturn, 1) := by decide +kernel
theorem dL_errorPosition_14 : decode cL_errorPosition 14 = .ok (.iconst 0, 1) := by decide +kernel
theorem dL_errorPosition_15 : decode cL_errorPosition 15 = .ok (.ireturn, 1) := by decide +kernel
theorem dL_failedCommand_0 : decode cL_failedCommand 0 = .ok (.aload_n 1, 1) := by decide +kernel
theorem dL_failedCommand_1 : decode cL_failedCommand 1 = .ok (.iconst 0, 1) := by decide +kernel
theorem dL_failedCommand_2 : decode cL_failedCommand 2 = .ok (.aload_n 0, 1) := by decide +kernel
theorem dL_failedCommand_3 : decode cL_failedCommand 3 = .ok (.invokevirtual 152, 3) := by decide +kernel
theorem dL_failedCommand_6 : decode cL_failedCommand 6 = .ok (.i2l, 1) := by decide +kernel
theorem dL_failedCommand_7 : decode cL_failedCommand 7 = .ok (.lastore, 1) := by decide +kernel
theorem dL_failedCommand_8 : decode cL_failedCommand 8 = .ok (.goto 6, 3) := by decide +kernel
theorem dL_failedCommand_11 : decode cL_failedCommand 11 = .ok (.astore_n 2, 1) := by decide +kernel
theorem dL_failedCommand_12 : decode cL_failedCommand 12 = .ok (.iconst 1, 1) := by decide +kernel
theorem dL_failedCommand_13 : decode cL_failedCommand 13 = .ok (.ireturn, 1) := by decide +kernel
theorem dL_failedCommand_14 : decode cL_failedCommand 14 = .ok (.iconst 0, 1) := by decide +kernel
theorem dL_failedCommand_15 : decode cL_failedCommand 15 = .ok (.ireturn, 1) := by decide +kernel
theorem dL_undo_0 : decode cL_undo 0 = .ok (.aload_n 1, 1) := by decide +kernel
theorem dL_undo_1 : decode cL_undo 1 = .ok (.iconst 0, 1) := by decide +kernel
theorem dL_undo_2 : decode cL_undo 2 = .ok (.aload_n 0, 1) := by decide +kernel
theorem dL_undo_3 : decode cL_undo 3 = .ok (.invokevirtual 155, 3) := by decide +kernel
theorem dL_undo_6 : decode cL_undo 6 = .ok (.i2l, 1) := by decide +kernel
theorem dL_undo_7 : decode cL_undo 7 = .ok (.lastore, 1) := by decide +kernel
theorem dL_undo_8 : decode cL_undo 8 = .ok (.goto 6, 3) := by decide +kernel
theorem dL_undo_11 : decode cL_undo 11 = .ok (.astore_n 2, 1) := by decide +kernel
theorem dL_undo_12 : decode cL_undo 12 = .ok (.iconst 1, 1) := by decide +kernel
theorem dL_undo_13 : decode cL_undo 13 = .ok (.ireturn, 1) := by decide +kernel
theorem dL_undo_14 : decode cL_undo 14 = .ok (.iconst 0, 1) := by decide +kernel
theorem dL_undo_15 : decode cL_undo 15 = .ok (.ireturn, 1) := by decide +kernel
theorem dL_restore_0 : decode cL_restore 0 = .ok (.aload_n 1, 1) := by decide +kernel
theorem dL_restore_1 : decode cL_restore 1 = .ok (.iconst 0, 1) := by decide +kernel
theorem dL_restore_2 : decode cL_restore 2 = .ok (.aload_n 0, 1) := by decide +kernel
theorem dL_restore_3 : decode cL_restore 3 = .ok (.invokevirtual 158, 3) := by decide +kernel
theorem dL_restore_6 : decode cL_restore 6 = .ok (.i2l, 1) := by decide +kernel
theorem dL_restore_7 : decode cL_restore 7 = .ok (.lastore, 1) := by decide +kernel
theorem dL_restore_8 : decode cL_restore 8 = .ok (.goto 6, 3) := by decide +kernel
theorem dL_restore_11 : decode cL_restore 11 = .ok (.astore_n 2, 1) := by decide +kernel
theorem dL_restore_12 : decode cL_restore 12 = .ok (.iconst 1, 1) := by decide +kernel
theorem dL_restore_13 : decode cL_restore 13 = .ok (.ireturn, 1) := by decide +kernel
theorem dL_restore_14 : decode cL_restore 14 = .ok (.iconst 0, 1) := by decide +kernel
theorem dL_restore_15 : decode cL_restore 15 = .ok (.ireturn, 1) := by decide +kernel
end
section
/-! MY BASE: a pure memory, what heap pictures it, what the tables say; rows over it -/
/-- the words that every method's list holds -/
def BIG : List Cond := lw_tbl.filter goodWord
theorem big_mem {w : Cond} {i : Nat} (h : lw_tbl[i]? = some w) (hg : goodWord w = true) : w ∈ BIG := List.mem_filter.mpr ⟨List.mem_of_getElem? h, hg⟩
theorem big_lw {w : Cond} (h : w ∈ BIG) : w ∈ lw_tbl := (List.mem_filter.mp h).1
theorem big_good {w : Cond} (h : w ∈ BIG) : goodWord w = true := (List.mem_filter.mp h).2
theorem big_goodIn {big ws : List Cond} (hm : ∀ w ∈ ws, w ∈ BIG) (hb : ∀ w ∈ BIG, w ∈ big) : GoodIn big ws := fun w hw => ⟨hb w (hm w hw), good_of_word (big_good (hm w hw))⟩
/-- ints, longs, references (ids, 0 is null), doubles: by object and slot -/
abbrev Mem : Type := (Nat → Nat → Int32) × (Nat → Nat → Int64) × (Nat → Nat → Nat) × (Nat → Nat → UInt64)
def mI (M : Mem) (a k : Nat) : Int32 := M.1 a k
def mJ (M : Mem) (a k : Nat) : Int64 := M.2.1 a k
def mR (M : Mem) (a k : Nat) : Nat := M.2.2.1 a k
def mD (M : Mem) (a k : Nat) : UInt64 := M.2.2.2 a k
def up2 {α : Type} (f : Nat → Nat → α) (a k : Nat) (x : α) : Nat → Nat → α := fun b j => if b = a ∧ j = k then x else f b j
def sI (M : Mem) (a k : Nat) (x : Int32) : Mem := (up2 M.1 a k x, M.2)
def sJ (M : Mem) (a k : Nat) (x : Int64) : Mem := (M.1, up2 M.2.1 a k x, M.2.2)
def sR (M : Mem) (a k : Nat) (x : Nat) : Mem := (M.1, M.2.1, up2 M.2.2.1 a k x, M.2.2.2)
def sD (M : Mem) (a k : Nat) (x : UInt64) : Mem := (M.1, M.2.1, M.2.2.1, up2 M.2.2.2 a k x)
theorem mI_sI (M : Mem) (a k : Nat) (x : Int32) (b j : Nat) : mI (sI M a k x) b j = if b = a ∧ j = k then x else mI M b j := rfl
theorem mJ_sI (M : Mem) (a k : Nat) (x : Int32) (b j : Nat) : mJ (sI M a k x) b j = mJ M b j := rfl
theorem mR_sI (M : Mem) (a k : Nat) (x : Int32) (b j : Nat) : mR (sI M a k x) b j = mR M b j := rfl
theorem mD_sI (M : Mem) (a k : Nat) (x : Int32) (b j : Nat) : mD (sI M a k x) b j = mD M b j := rfl
theorem mI_sJ (M : Mem) (a k : Nat) (x : Int64) (b j : Nat) : mI (sJ M a k x) b j = mI M b j := rfl
theorem mJ_sJ (M : Mem) (a k : Nat) (x : Int64) (b j : Nat) : mJ (sJ M a k x) b j = if b = a ∧ j = k then x else mJ M b j := rfl
theorem mR_sJ (M : Mem) (a k : Nat) (x : Int64) (b j : Nat) : mR (sJ M a k x) b j = mR M b j := rfl
theorem mD_sJ (M : Mem) (a k : Nat) (x : Int64) (b j : Nat) : mD (sJ M a k x) b j = mD M b j := rfl
theorem mI_sR (M : Mem) (a k : Nat) (x : Nat) (b j : Nat) : mI (sR M a k x) b j = mI M b j := rfl
theorem mJ_sR (M : Mem) (a k : Nat) (x : Nat) (b j : Nat) : mJ (sR M a k x) b j = mJ M b j := rfl
theorem mR_sR (M : Mem) (a k : Nat) (x : Nat) (b j : Nat) : mR (sR M a k x) b j = if b = a ∧ j = k then x else mR M b j := rfl
theorem mD_sR (M : Mem) (a k : Nat) (x : Nat) (b j : Nat) : mD (sR M a k x) b j = mD M b j := rfl
theorem mI_sD (M : Mem) (a k : Nat) (x : UInt64) (b j : Nat) : mI (sD M a k x) b j = mI M b j := rfl
theorem mJ_sD (M : Mem) (a k : Nat) (x : UInt64) (b j : Nat) : mJ (sD M a k x) b j = mJ M b j := rfl
theorem mR_sD (M : Mem) (a k : Nat) (x : UInt64) (b j : Nat) : mR (sD M a k x) b j = mR M b j := rfl
theorem mD_sD (M : Mem) (a k : Nat) (x : UInt64) (b j : Nat) : mD (sD M a k x) b j = if b = a ∧ j = k then x else mD M b j := rfl
/-- an array copied: n places of row a from sp, into row b from dp -/
def cpI (M : Mem) (a sp b dp n : Nat) : Mem := (fun c j => if c = b then va_cpy (M.1 a) (M.1 b) sp dp n j else M.1 c j, M.2)
theorem mI_cpI (M : Mem) (a sp b dp n c j : Nat) : mI (cpI M a sp b dp n) c j = if c = b then (if dp ≤ j ∧ j < dp + n then mI M a (sp + (j - dp)) else mI M b j) else mI M c j := rfl
theorem mJ_cpI (M : Mem) (a sp b dp n c j : Nat) : mJ (cpI M a sp b dp n) c j = mJ M c j := rfl
theorem mR_cpI (M : Mem) (a sp b dp n c j : Nat) : mR (cpI M a sp b dp n) c j = mR M c j := rfl
theorem mD_cpI (M : Mem) (a sp b dp n c j : Nat) : mD (cpI M a sp b dp n) c j = mD M c j := rfl
/-- a check: what fails it has no answer -/
def chk {α : Type} (b : Bool) (f : Option α) : Option α := match b with
  | true => f
  | false => none
def inb (i : Int32) (n : Nat) : Bool := decide (¬ (i < 0 ∨ n ≤ i.toNatClampNeg))
theorem inb_in {i : Int32} {n : Nat} (h : inb i n = true) : vp_in i n := by unfold inb at h; unfold vp_in; exact of_decide_eq_true h
/-- a callee that may throw, in a caller that doesn't catch -/
def bx {τ σ : Type} (x : Option ((τ ⊕ String) × Mem)) (k : τ → Mem → Option ((σ ⊕ String) × Mem)) : Option ((σ ⊕ String) × Mem) := match x with
  | none => none
  | some (.inl v, M) => k v M
  | some (.inr E, M) => some (.inr E, M)
/-- the kinds of object: classes by their numbers in the names, arrays from 20 on -/
def tyB (k : Nat) : Nat := match k with
  | 0 => 5
  | 1 => 29
  | 2 => 21
  | 3 => 22
  | k => if k % 2 = 0 then 4 else 20
def tyT (a : Nat) : Nat :=
  if a = 0 then 0 else if a = 1 then 8 else if a < 44 then tyB ((a - 2) % 14) else if a = 44 then 2 else if a = 45 then 30 else if a < 172 then tyB ((a - 46) % 14)
  else if a = 172 then 4 else if a = 173 then 20 else if a = 174 then 3 else if a = 175 then 6 else if a = 176 then 26 else if a = 177 then 31 else if a < 202 then (if a % 2 = 0 then 1 else 23)
  else if a = 202 then 6 else if a = 203 then 26 else if a = 204 then 9 else if a = 205 then 24 else if a = 206 then 25 else if a < 210 then 24 else if a < 212 then 26 else if a = 212 then 23 else if a = 213 then 27 else if a = 214 then 28 else 0
abbrev NN : Nat := 214
def clR (t : Nat) : String := match t with
  | 1 => RX1
  | 2 => RX2
  | 3 => RX3
  | 4 => RX4
  | 5 => RX5
  | 6 => RX6
  | 8 => RX8
  | _ => RX9
def clT (t : Nat) : u_T := match t with
  | 1 => TX1
  | 2 => TX2
  | 3 => TX3
  | 4 => TX4
  | 5 => TX5
  | 6 => TX6
  | 8 => TX8
  | _ => TX9
def clY (t : Nat) : Nat → FieldType := match t with
  | 1 => tyX1
  | 2 => tyX2
  | 3 => tyX3
  | 4 => tyX4
  | 5 => tyX5
  | 6 => tyX6
  | 8 => tyX8
  | _ => tyX9
def clN (t : Nat) : Nat := match t with
  | 1 => 3
  | 2 => 3
  | 3 => 4
  | 4 => 8
  | 5 => 10
  | 6 => 2
  | 8 => 10
  | _ => 19
/-- what a slot holds: 0 a number of 32 bits, 1 a long, 2 a reference to an object of the run, 3 a verb, 4 a double -/
def kd (t k : Nat) : Nat := match t with
  | 1 => if k = 0 then 3 else if k = 1 then 2 else 0
  | 2 => if k = 0 then 2 else 0
  | 3 => if k < 2 then 2 else 0
  | 4 => if k = 3 then 2 else 0
  | 5 => if k = 0 then 2 else if k = 7 then 1 else if k < 8 then 0 else 2
  | 6 => if k = 0 then 2 else 0
  | 8 => if k < 3 then 2 else if k = 3 then 0 else if k < 8 then 2 else 0
  | 9 => if k = 0 then 0 else if k < 6 then 2 else if k = 9 then 2 else if k = 11 then 2 else if k = 16 then 2 else 0
  | 27 => 1
  | 28 => 4
  | 29 => 2
  | 30 => 2
  | 31 => 2
  | _ => 0
/-- which kind of object a reference leads to -/
def rt (t k : Nat) : Nat := match t with
  | 1 => 23
  | 2 => 30
  | 3 => if k = 0 then 6 else 31
  | 4 => 20
  | 5 => if k = 0 then 29 else if k = 8 then 21 else 22
  | 6 => 26
  | 8 => if k < 3 then 5 else if k = 4 then 2 else if k = 5 then 4 else if k = 6 then 3 else 6
  | 9 => if k = 2 then 25 else if k < 6 then 24 else if k = 16 then 23 else 26
  | 29 => 4
  | 30 => 5
  | _ => 1
def alen (t : Nat) : Nat := match t with
  | 20 => 36
  | 21 => 30
  | 22 => 10
  | 23 => 4
  | 24 => 260
  | 25 => 2080
  | 26 => 60
  | 27 => 1
  | 28 => 1
  | 29 => 5
  | 30 => 9
  | _ => 12
def eT (t : Nat) : FieldType := match t with
  | 26 => .char
  | 27 => .long
  | 28 => .double
  | 29 => .object RX4
  | 30 => .object RX5
  | 31 => .object RX1
  | _ => .int
def slotsOf (t : Nat) : Nat := if t < 20 then clN t else alen t
def isC (t : Nat) : Bool := t == 1 || t == 2 || t == 3 || t == 4 || t == 5 || t == 6 || t == 8 || t == 9
def isA (t : Nat) : Bool := Nat.ble 20 t && Nat.ble t 31
/-- the run's fixed things: the heap at the law's start, class numbers, slots, array classes, the verbs' addresses -/
abbrev GP : Type := Heap × (Nat → ClassId) × (Nat → Nat → Nat) × (Nat → ClassId) × (Nat → Nat)
abbrev gH (g : GP) : Heap := g.1
abbrev gN (g : GP) : Nat := g.1.size
abbrev gC (g : GP) : Nat → ClassId := g.2.1
abbrev gI (g : GP) : Nat → Nat → Nat := g.2.2.1
abbrev gA (g : GP) : Nat → ClassId := g.2.2.2.1
abbrev gV (g : GP) : Nat → Nat := g.2.2.2.2
def adr (g : GP) (a : Nat) : Nat := gN g + (a - 1)
def vR (g : GP) (r : Nat) : Value := if r = 0 then .null else .ref (adr g r)
def vQ (g : GP) (r : Nat) : Value := if r = 0 then .null else .ref (gV g (r - 1))
def vV (g : GP) (M : Mem) (d a k : Nat) : Value := match d with
  | 0 => .int (mI M a k)
  | 1 => .long (mJ M a k)
  | 2 => vR g (mR M a k)
  | 3 => vQ g (mR M a k)
  | _ => .double (mD M a k)
def CellAt (g : GP) (M : Mem) (H : Heap) (a : Nat) : Prop :=
  if tyT a < 20 then t_OB (adr g a) (gC g (tyT a)) (clN (tyT a)) (gI g (tyT a)) H (fun k => vV g M (kd (tyT a) k) a k)
  else H[adr g a]? = some (arrV (gA g (tyT a)) (alen (tyT a)) (fun k => vV g M (kd (tyT a) k) a k))
/-- the heap pictures the first n objects -/
def HR0 (g : GP) (n : Nat) (M : Mem) (H : Heap) : Prop := (∀ q, q < gN g → H[q]? = (gH g)[q]?) ∧ (∀ a, 1 ≤ a → a ≤ n → CellAt g M H a) ∧ gN g + n ≤ H.size
/-- each reference leads to an object of its kind -/
def WT (M : Mem) : Prop := ∀ a k, 1 ≤ a → a ≤ NN → k < slotsOf (tyT a) → (kd (tyT a) k = 2 → 1 ≤ mR M a k ∧ mR M a k ≤ NN ∧ tyT (mR M a k) = rt (tyT a) k) ∧ (kd (tyT a) k = 3 → 1 ≤ mR M a k ∧ mR M a k ≤ 11)
def HR (g : GP) (M : Mem) (H : Heap) : Prop := HR0 g NN M H ∧ WT M
/-- the words of tables that no warming of links changes, though they aren't 'good' -/
def FACE : List Cond := lw_tbl.filter (fun w => w.faceAtom && w.onTables)
theorem face_mem {w : Cond} {i : Nat} (h : lw_tbl[i]? = some w) (hg : (w.faceAtom && w.onTables) = true) : w ∈ FACE := List.mem_filter.mpr ⟨List.mem_of_getElem? h, hg⟩
theorem face_alike {w : Cond} {u U : State} (hw : w ∈ FACE) (hvm : u.vm.Alike U.vm) (h : w.before #[] u = true) : w.before #[] U = true := by
  have hg := (List.mem_filter.mp hw).2
  simp only [Bool.and_eq_true] at hg
  exact va_tabs hg.2 (u := u.setVm U.vm) rfl (Cond.faceAtom_setVm hvm w hg.1 h)
theorem face_any {w : Cond} {args : Array Value} {U : State} (hw : w ∈ FACE) (h : w.before #[] U = true) : w.before args U = true := by
  have hg := (List.mem_filter.mp hw).2
  simp only [Bool.and_eq_true] at hg
  exact va_tabs hg.2 (u := U) rfl h
/-- the String constants that messages are -/
def STR : List (String × Nat × String) := lw_tbl.filterMap (fun w => match w with
  | .stringRef c i t => some (c, i, t)
  | _ => none)
theorem str_mem {c t : String} {n i : Nat} (h : lw_tbl[i]? = some (.stringRef c n t)) : (c, n, t) ∈ STR := List.mem_filterMap.mpr ⟨_, List.mem_of_getElem? h, rfl⟩
/-- what the tables say of classes, arrays, Throwable's statics -/
def KN (g : GP) (U : State) : Prop :=
  (∀ t, isC t = true → u_Kn U (clR t) (clT t) (clN t) (gC g t) (gI g t)) ∧ (∀ t, isA t = true → ArrOfT U (gA g t) (eT t) ∧ va_RA U (gA g t) (eT t)) ∧
  vx_Zq Bundle.tN "UNASSIGNED_STACK" Bundle.steD (fun q => gN g ≤ q) U (gH g) ∧ vx_Zq Bundle.tN "SUPPRESSED_SENTINEL" Bundle.listD (fun q => gN g ≤ q) U (gH g) ∧ (∀ w ∈ FACE, w.before #[] U = true) ∧ ∀ q ∈ STR, ∃ a, vk_R q.1 q.2.1 q.2.2 a U
theorem KN.warm {g : GP} {u U : State} (hW : u.WarmedH U.vm) (h : KN g u) : KN g U :=
  ⟨fun t ht => u_Kn_moved hW.alike (h.1 t ht), fun t ht => ⟨arrOfT_moved hW.alike (h.2.1 t ht).1, (h.2.1 t ht).2.moved hW.alike⟩, h.2.2.1.moved hW.alike, h.2.2.2.1.moved hW.alike, fun w hw => face_alike hw hW.alike (h.2.2.2.2.1 w hw), fun q hq => (h.2.2.2.2.2 q hq).imp fun _ h9 => vk_R.warm hW h9⟩
def LK (g : GP) (s : State) (H : Heap) (locs : List Loc) : Prop := s.heap.size ≤ H.size ∧ ∀ q ∈ locs, gN g ≤ q.base
def CX (g : GP) (l : Launch) (p : Program) (s : State) (m : MethodId) (args : Array Value) (meth : Method) (c : Code) (own : String) (cc : ByteArray) (nL : Nat) : Prop :=
  p.tables.exec = Jvm.exec ∧ c.code = cc ∧ c.maxLocals = nL ∧ s.vm.findClass own = some m.cls ∧ (∀ w ∈ BIG, w.before args s = true) ∧ KN g s ∧ meth.locks = false ∧ l.stackTraces = false ∧ (∀ q, q < gN g → s.heap[q]? = (gH g)[q]?)
def mcO {τ : Type} (o : τ ⊕ String) : Nat := match o with
  | .inl _ => 0
  | .inr _ => 1
def msO {τ : Type} (o : τ ⊕ String) : Nat := match o with
  | .inl _ => 0
  | .inr _ => 6
def QcO {τ : Type} (g : GP) (rv : τ → Option Value) (o : τ ⊕ String) (M' : Mem) : Array Value → State → Outcome → State → Prop := fun _ st oc t => ∃ v, o = .inl v ∧ oc = .returned (rv v) ∧ HR g M' t.heap ∧ st.heap.size ≤ t.heap.size
def XcO {τ : Type} (g : GP) (o : τ ⊕ String) (M' : Mem) : String → State → State → Prop := fun E st t => o = .inr E ∧ HR g M' t.heap ∧ st.heap.size ≤ t.heap.size
abbrev rmO {τ : Type} (o : τ ⊕ String) (fr lo : Nat) : Room := { frames := fr, cells := mcO o, slots := msO o, locals := lo }
/-- A METHOD'S CONTRACT: from every heap that pictures M, with these arguments, it ends as o says, and the heap pictures M' -/
def CO {τ : Type} (g : GP) (l : Launch) (y : MethodName) (cc : ByteArray) (nL : Nat) (ret : Option FieldType) (fr lo : Nat) (rv : τ → Option Value) (As : List Value) (M : Mem) (o : τ ⊕ String) (M' : Mem) : Prop :=
  vx_Met l y (.code y cc nL ret :: BIG) (rmO o fr lo) (va_Pc As (fun U => HR g M U.heap ∧ KN g U)) (QcO g rv o M') (XcO g o M') (mcO o) (msO o) (fun q => gN g ≤ q)
abbrev MQO {τ : Type} (g : GP) (below : List Frame) (rv : τ → Option Value) (o : τ ⊕ String) (M' : Mem) (args : Array Value) (s : State) : State → Prop := vx_MQ below (QcO g rv o M') (XcO g o M') args s (mcO o) (msO o) (fun q => gN g ≤ q)
/-- the goal with the answer in it: f answers r0 only if the end is as due -/
def GQ {α : Type} (f : Option α) (r0 : α) (mq : State → Prop) : State → Prop := fun t => f = some r0 → mq t
section MYQ
variable {p : Program} {l : Launch} {e : Env} {R : Room} {s : State} {m : MethodId} {args : Array Value} {below : List Frame} {meth : Method} {c : Code} {H : Heap} {locs : List Loc} {cells slots : Nat} {f0 : JFrame} {mq : State → Prop}
theorem q_none {α : Type} {r0 : α} : W p l e R s m args below meth c H locs cells slots (GQ none r0 mq) f0 := fun T _ _ => ⟨T.setTop f0, Steps.refl _, fun h => by cases h⟩
theorem q_bind {α β : Type} {r0 : α} {x : Option β} {k : β → Option α} (h : ∀ v, x = some v → W p l e R s m args below meth c H locs cells slots (GQ (k v) r0 mq) f0) : W p l e R s m args below meth c H locs cells slots (GQ (x.bind k) r0 mq) f0 := by
  cases x with
  | none => exact q_none
  | some v => exact h v rfl
theorem q_bx {τ σ : Type} {r0 : (σ ⊕ String) × Mem} {x : Option ((τ ⊕ String) × Mem)} {k : τ → Mem → Option ((σ ⊕ String) × Mem)} (h : ∀ v M, x = some (.inl v, M) → W p l e R s m args below meth c H locs cells slots (GQ (k v M) r0 mq) f0)
    (hx : ∀ E M, x = some (.inr E, M) → (.inr E, M) = r0 → W p l e R s m args below meth c H locs cells slots mq f0) : W p l e R s m args below meth c H locs cells slots (GQ (bx x k) r0 mq) f0 := by
  match x with
  | none => exact q_none
  | some (.inl v, M) => exact h v M rfl
  | some (.inr E, M) =>
    by_cases hr : ((.inr E, M) : (σ ⊕ String) × Mem) = r0
    · intro T hT X
      obtain ⟨t, a, b⟩ := hx E M rfl hr T hT X
      exact ⟨t, a, fun _ => b⟩
    · exact fun T _ _ => ⟨T.setTop f0, Steps.refl _, fun h => absurd (Option.some.inj h) hr⟩
theorem q_chk {α : Type} {r0 : α} {b : Bool} {f : Option α} (h : b = true → W p l e R s m args below meth c H locs cells slots (GQ f r0 mq) f0) : W p l e R s m args below meth c H locs cells slots (GQ (chk b f) r0 mq) f0 := by
  cases b with
  | false => exact q_none
  | true => exact h rfl
theorem q_pos {α : Type} {r0 : α} {P : Prop} {hd : Decidable P} {f h : Option α} (hp : P) (k : W p l e R s m args below meth c H locs cells slots (GQ f r0 mq) f0) : W p l e R s m args below meth c H locs cells slots (GQ (@ite _ P hd f h) r0 mq) f0 := by
  rw [if_pos hp]; exact k
theorem q_neg {α : Type} {r0 : α} {P : Prop} {hd : Decidable P} {f h : Option α} (hp : ¬ P) (k : W p l e R s m args below meth c H locs cells slots (GQ h r0 mq) f0) : W p l e R s m args below meth c H locs cells slots (GQ (@ite _ P hd f h) r0 mq) f0 := by
  rw [if_neg hp]; exact k
theorem q_ret {α : Type} {r0 v : α} (k : v = r0 → W p l e R s m args below meth c H locs cells slots mq f0) : W p l e R s m args below meth c H locs cells slots (GQ (some v) r0 mq) f0 := by
  by_cases hr : v = r0
  · intro T hT X
    obtain ⟨t, a, b⟩ := k hr T hT X
    exact ⟨t, a, fun _ => b⟩
  · exact fun T _ _ => ⟨T.setTop f0, Steps.refl _, fun h => absurd (Option.some.inj h) hr⟩
theorem q_eq {α : Type} {r0 : α} {f h : Option α} (e1 : f = h) (k : W p l e R s m args below meth c H locs cells slots (GQ h r0 mq) f0) : W p l e R s m args below meth c H locs cells slots (GQ f r0 mq) f0 := by rw [e1]; exact k
end MYQ
theorem adr_ne {g : GP} {a b : Nat} (ha : 1 ≤ a) (hb : 1 ≤ b) (h : a ≠ b) : adr g a ≠ adr g b := by unfold adr; omega
theorem vR_pos {g : GP} {r : Nat} (h : 1 ≤ r) : vR g r = .ref (adr g r) := by unfold vR; rw [if_neg (by omega)]
theorem vQ_pos {g : GP} {r : Nat} (h : 1 ≤ r) : vQ g r = .ref (gV g (r - 1)) := by unfold vQ; rw [if_neg (by omega)]
theorem ty_ge {a t : Nat} (h : tyT a = t) (ht : t ≠ 0) : 1 ≤ a ∧ a ≤ NN := by
  unfold tyT at h
  constructor
  · rcases Nat.eq_zero_or_pos a with z | z
    · subst z; exact absurd h.symm ht
    · exact z
  · rcases Nat.lt_or_ge 214 a with z | z
    · repeat (first | rw [if_neg (by omega)] at h)
      exact absurd h.symm ht
    · exact z
theorem HR0.obj {g : GP} {n : Nat} {M : Mem} {H : Heap} (h : HR0 g n M H) {a t : Nat} (h1 : 1 ≤ a) (hn : a ≤ n) (ht : tyT a = t) (hc : t < 20) : t_OB (adr g a) (gC g t) (clN t) (gI g t) H (fun k => vV g M (kd t k) a k) := by
  have := h.2.1 a h1 hn
  unfold CellAt at this
  rw [ht, if_pos hc] at this
  exact this
theorem HR0.arr {g : GP} {n : Nat} {M : Mem} {H : Heap} (h : HR0 g n M H) {a t : Nat} (h1 : 1 ≤ a) (hn : a ≤ n) (ht : tyT a = t) (hc : ¬ t < 20) : H[adr g a]? = some (arrV (gA g t) (alen t) (fun k => vV g M (kd t k) a k)) := by
  have := h.2.1 a h1 hn
  unfold CellAt at this
  rw [ht, if_neg hc] at this
  exact this
theorem cell_kept {g : GP} {M M' : Mem} {H H' : Heap} {b : Nat} (hq : H'[adr g b]? = H[adr g b]?) (hv : ∀ d j, vV g M' d b j = vV g M d b j) (h : CellAt g M H b) : CellAt g M' H' b := by
  unfold CellAt at h ⊢
  simp only [hv]
  split
  · rename_i h2
    rw [if_pos h2] at h
    exact h.kept hq
  · rename_i h2
    rw [if_neg h2] at h
    rw [hq]; exact h
/-- one object changed -/
theorem HR0.put {g : GP} {n : Nat} {M M' : Mem} {H H' : Heap} (h : HR0 g n M H) {a : Nat} (h1 : 1 ≤ a) (oq : ∀ q, q ≠ adr g a → H'[q]? = H[q]?) (hz : H'.size = H.size) (ha : CellAt g M' H' a) (hv : ∀ b d j, b ≠ a → vV g M' d b j = vV g M d b j) : HR0 g n M' H' := by
  refine ⟨fun q hq => ?_, fun b hb hn => ?_, by rw [hz]; exact h.2.2⟩
  · rw [oq q (by unfold adr; omega)]
    exact h.1 q hq
  · by_cases e : b = a
    · rw [e]; exact ha
    · exact cell_kept (oq _ (adr_ne hb h1 e)) (fun d j => hv b d j e) (h.2.1 b hb hn)
end
section
/-! MY ROWS over the pure memory -/
section MYR
variable {p : Program} {l : Launch} {e : Env} {R : Room} {s : State} {m : MethodId} {args : Array Value} {below : List Frame} {meth : Method} {c : Code} {H : Heap} {locs : List Loc} {cells slots : Nat} {Q : State → Prop}
variable {cc : ByteArray} {pc : Nat} {ls : Array Slot} {rest : List Value} {g : GP} {own : String} {nL a t k idx : Nat} {M M' : Mem}
/-- a class's words among BIG (a row by program each) -/
def inC (t : Nat) : Prop := ∀ w ∈ u_ws (clR t) (clT t) (clN t), w ∈ BIG
def okC (t : Nat) : Prop := inC t ∧ (∀ a, a < clN t → ∀ b, b < clN t → a ≠ b → (clT t a).2.1 ≠ (clT t b).2.1) ∧ ∀ k, k < clN t → parseFieldDescriptor (clT t k).2.2.1 = some (clY t k)
theorem m_get (X : CX g l p s m args meth c own cc nL) (hH : HR g M H) (hw : inC t) (hty : tyT a = t) (hc : isC t = true) (ht : t < 20) (hk : k < clN t) (hlk : Cond.fieldLink own idx (clT t k).1 (clT t k).2.1 (clT t k).2.2.1 ∈ BIG) (hdg : decode cc pc = .ok (.getfield idx, 3))
    (kk : W p l e R s m args below meth c H locs cells slots Q (F0 m (pc + 3) ls (vV g M (kd t k) a k :: rest))) : W p l e R s m args below meth c H locs cells slots Q (F0 m pc ls (.ref (adr g a) :: rest)) := by
  obtain ⟨hx, hb, -, hown, hts, hK, -⟩ := X
  have hr := ty_ge hty (by rintro rfl; simp [isC] at hc)
  obtain ⟨cell, q1, q2, q3, q4⟩ := hH.1.obj hr.1 hr.2 hty ht
  obtain ⟨hS, hfc, kC, hkC, hkind⟩ := hK.1 t hc
  obtain ⟨cf, kf, fi, f, hi, hsl⟩ := hS k hk
  refine W.getf hx hb hown (hts _ hlk) hi (u_facts hfc hkC (u_lays hts hw hk) hi).1 q1 (by rw [q3]; exact fun h => by cases h) (v := vV g M (kd t k) a k) ?_ rfl rfl hdg kk
  rw [hsl, q4 k hk]
theorem m_getI (X : CX g l p s m args meth c own cc nL) (hH : HR g M H) (hw : inC t) (hty : tyT a = t) (hc : isC t = true) (ht : t < 20) (hk : k < clN t) (hd : kd t k = 0) (hlk : Cond.fieldLink own idx (clT t k).1 (clT t k).2.1 (clT t k).2.2.1 ∈ BIG) (hdg : decode cc pc = .ok (.getfield idx, 3))
    (kk : W p l e R s m args below meth c H locs cells slots Q (F0 m (pc + 3) ls (.int (mI M a k) :: rest))) : W p l e R s m args below meth c H locs cells slots Q (F0 m pc ls (.ref (adr g a) :: rest)) := by
  refine m_get X hH hw hty hc ht hk hlk hdg ?_
  rw [hd]; exact kk
theorem m_getJ (X : CX g l p s m args meth c own cc nL) (hH : HR g M H) (hw : inC t) (hty : tyT a = t) (hc : isC t = true) (ht : t < 20) (hk : k < clN t) (hd : kd t k = 1) (hlk : Cond.fieldLink own idx (clT t k).1 (clT t k).2.1 (clT t k).2.2.1 ∈ BIG) (hdg : decode cc pc = .ok (.getfield idx, 3))
    (kk : W p l e R s m args below meth c H locs cells slots Q (F0 m (pc + 3) ls (.long (mJ M a k) :: rest))) : W p l e R s m args below meth c H locs cells slots Q (F0 m pc ls (.ref (adr g a) :: rest)) := by
  refine m_get X hH hw hty hc ht hk hlk hdg ?_
  rw [hd]; exact kk
theorem m_getR (X : CX g l p s m args meth c own cc nL) (hH : HR g M H) (hw : inC t) (hty : tyT a = t) (hc : isC t = true) (ht : t < 20) (hk : k < clN t) (hd : kd t k = 2) (hlk : Cond.fieldLink own idx (clT t k).1 (clT t k).2.1 (clT t k).2.2.1 ∈ BIG) (hdg : decode cc pc = .ok (.getfield idx, 3)) {t2 : Nat} (h2 : rt t k = t2)
    (kk : tyT (mR M a k) = t2 → W p l e R s m args below meth c H locs cells slots Q (F0 m (pc + 3) ls (.ref (adr g (mR M a k)) :: rest))) : W p l e R s m args below meth c H locs cells slots Q (F0 m pc ls (.ref (adr g a) :: rest)) := by
  refine m_get X hH hw hty hc ht hk hlk hdg ?_
  have hr := ty_ge hty (by rintro rfl; simp [isC] at hc)
  have hwt := (hH.2 a k hr.1 hr.2 (by unfold slotsOf; rw [hty, if_pos ht]; exact hk)).1 (by rw [hty]; exact hd)
  rw [hd]
  show W p l e R s m args below meth c H locs cells slots Q (F0 m (pc + 3) ls (vR g (mR M a k) :: rest))
  rw [vR_pos hwt.1]
  exact kk (by rw [hwt.2.2, hty, h2])
theorem m_getQ (X : CX g l p s m args meth c own cc nL) (hH : HR g M H) (hw : inC t) (hty : tyT a = t) (hc : isC t = true) (ht : t < 20) (hk : k < clN t) (hd : kd t k = 3) (hlk : Cond.fieldLink own idx (clT t k).1 (clT t k).2.1 (clT t k).2.2.1 ∈ BIG) (hdg : decode cc pc = .ok (.getfield idx, 3))
    (kk : 1 ≤ mR M a k ∧ mR M a k ≤ 11 → W p l e R s m args below meth c H locs cells slots Q (F0 m (pc + 3) ls (.ref (gV g (mR M a k - 1)) :: rest))) : W p l e R s m args below meth c H locs cells slots Q (F0 m pc ls (.ref (adr g a) :: rest)) := by
  refine m_get X hH hw hty hc ht hk hlk hdg ?_
  have hr := ty_ge hty (by rintro rfl; simp [isC] at hc)
  have hwt := (hH.2 a k hr.1 hr.2 (by unfold slotsOf; rw [hty, if_pos ht]; exact hk)).2 (by rw [hty]; exact hd)
  rw [hd]
  show W p l e R s m args below meth c H locs cells slots Q (F0 m (pc + 3) ls (vQ g (mR M a k) :: rest))
  rw [vQ_pos hwt.1]
  exact kk hwt
theorem m_apart (X : CX g l p s m args meth c own cc nL) (ho : okC t) (hc : isC t = true) : ∀ x y, x < clN t → y < clN t → x ≠ y → gI g t x ≠ gI g t y := by
  obtain ⟨-, -, -, -, hts, hK, -⟩ := X
  intro x y hx hy hne
  obtain ⟨hS, -⟩ := hK.1 t hc
  obtain ⟨_, _, _, fa, hia, ea⟩ := hS x hx
  obtain ⟨_, _, _, fb, hib, eb⟩ := hS y hy
  rw [← ea, ← eb]
  refine u_apart (u_lays hts ho.1 hx) (u_lays hts ho.1 hy) hia hib ?_
  rw [(State.fieldFound?_type hia (ho.2.2 x hx)).1, (State.fieldFound?_type hib (ho.2.2 y hy)).1]
  exact ho.2.1 x hx y hy hne
/-- the object with one field changed -/
theorem m_obj {H' : Heap} {v : Value} (h : t_OB (adr g a) (gC g t) (clN t) (gI g t) H' (updV (fun j => vV g M (kd t j) a j) k v)) (hty : tyT a = t) (ht : t < 20) (hv : vV g M' (kd t k) a k = v) (hn : ∀ j, j ≠ k → vV g M' (kd t j) a j = vV g M (kd t j) a j) : CellAt g M' H' a := by
  unfold CellAt
  rw [hty, if_pos ht]
  refine h.to fun j _ => ?_
  by_cases e : j = k
  · subst e; simp [updV, hv]
  · simp [updV, e, hn j e]
theorem m_put (X : CX g l p s m args meth c own cc nL) {n : Nat} (hH : HR0 g n M H) (hn : a ≤ n) (hL : LK g s H locs) (ho : okC t) (hty : tyT a = t) (hc : isC t = true) (ht : t < 20) (hk : k < clN t) (hfin : (clT t k).2.2.2 = false) {v : Value} {fy : FieldType} (hfy : clY t k = fy) (hnr : narrow fy v = v) (hft : fits fy v = true) (hv : vV g M' (kd t k) a k = v) (hj : ∀ j, j ≠ k → vV g M' (kd t j) a j = vV g M (kd t j) a j) (ho' : ∀ b d j, b ≠ a → vV g M' d b j = vV g M d b j)
    (hlk : Cond.fieldLink own idx (clT t k).1 (clT t k).2.1 (clT t k).2.2.1 ∈ BIG) (hdg : decode cc pc = .ok (.putfield idx, 3))
    (kk : ∀ H1 locs1, HR0 g n M' H1 → LK g s H1 locs1 → W p l e R s m args below meth c H1 locs1 cells slots Q (F0 m (pc + 3) ls rest)) : W p l e R s m args below meth c H locs cells slots Q (F0 m pc ls (v :: .ref (adr g a) :: rest)) := by
  have hap := m_apart X ho hc
  obtain ⟨hx, hb, -, hown, hts, hK, -⟩ := X
  have hr := ty_ge hty (by rintro rfl; simp [isC] at hc)
  obtain ⟨cell, q1, q2, q3, q4⟩ := hH.obj hr.1 hn hty ht
  obtain ⟨hS, hfc, kC, hkC, hkind⟩ := hK.1 t hc
  obtain ⟨cf, kf, fi, f, hi, hsl⟩ := hS k hk
  have hlay := hts _ (ho.1 _ (u_in_lay hk))
  unfold u_lay at hlay
  rw [if_neg (by rw [hfin]; decide)] at hlay
  have hst := (u_facts hfc hkC (u_lays hts ho.1 hk) hi).1
  have h6 := u_store hfc hkC hkind hlay hi (ho.2.2 k hk) (by rw [hfy]; exact hnr) (by rw [hfy]; exact hft)
  refine W.putK hx hb (f := f) ⟨hown, hts _ hlk, ⟨_, _, _, hi⟩, hst⟩ (by rw [q2]; exact h6) q1 q3 (by rw [hsl]; exact k2_hasslot (q4 k hk)) rfl rfl hdg fun H' e1 e2 e3 => ?_
  rw [hsl] at e1 ⊢
  refine kk H' _ (hH.put hr.1 e3 e2 (m_obj ⟨_, e1, q2, q3, t_set q4 hap hk v⟩ hty ht hv hj) ho') ⟨by rw [e2]; exact hL.1, fun q hq => ?_⟩
  rcases List.mem_append.mp hq with h | h
  · exact hL.2 q h
  · rw [List.mem_singleton.mp h]; unfold adr; exact Nat.le_add_right _ _
theorem vV_sI_self (x : Int32) : vV g (sI M a k x) 0 a k = .int x := by show Value.int (mI _ a k) = _; rw [mI_sI, if_pos ⟨rfl, rfl⟩]
theorem vV_sI_ne (x : Int32) {b j d : Nat} (h : ¬ (b = a ∧ j = k)) : vV g (sI M a k x) d b j = vV g M d b j := by
  unfold vV
  split
  · rw [mI_sI, if_neg h]
  all_goals rfl
theorem vV_sJ_self (x : Int64) : vV g (sJ M a k x) 1 a k = .long x := by show Value.long (mJ _ a k) = _; rw [mJ_sJ, if_pos ⟨rfl, rfl⟩]
theorem vV_sJ_ne (x : Int64) {b j d : Nat} (h : ¬ (b = a ∧ j = k)) : vV g (sJ M a k x) d b j = vV g M d b j := by
  unfold vV
  split
  · rfl
  · rw [mJ_sJ, if_neg h]
  all_goals rfl
theorem vV_sR_ne (x : Nat) {b j d : Nat} (h : ¬ (b = a ∧ j = k)) : vV g (sR M a k x) d b j = vV g M d b j := by
  unfold vV
  split
  · rfl
  · rfl
  · rw [mR_sR, if_neg h]
  · rw [mR_sR, if_neg h]
  · rfl
theorem vV_sD_self (x : UInt64) : vV g (sD M a k x) 4 a k = .double x := by show Value.double (mD _ a k) = _; rw [mD_sD, if_pos ⟨rfl, rfl⟩]
theorem vV_sD_ne (x : UInt64) {b j d : Nat} (h : ¬ (b = a ∧ j = k)) : vV g (sD M a k x) d b j = vV g M d b j := by
  unfold vV
  split
  · rfl
  · rfl
  · rfl
  · rfl
  · rw [mD_sD, if_neg h]
theorem WT.sI (h : WT M) (a k : Nat) (x : Int32) : WT (sI M a k x) := h
theorem WT.sJ (h : WT M) (a k : Nat) (x : Int64) : WT (sJ M a k x) := h
theorem WT.sD (h : WT M) (a k : Nat) (x : UInt64) : WT (sD M a k x) := h
theorem WT.cpI (h : WT M) (a sp b dp n : Nat) : WT (cpI M a sp b dp n) := h
theorem m_putI (X : CX g l p s m args meth c own cc nL) (hH : HR g M H) (hL : LK g s H locs) (ho : okC t) (hty : tyT a = t) (hc : isC t = true) (ht : t < 20) (hk : k < clN t) (hd : kd t k = 0) (hfin : (clT t k).2.2.2 = false) {x : Int32} {fy : FieldType} (hfy : clY t k = fy) (hnr : narrow fy (.int x) = .int x) (hft : fits fy (.int x) = true)
    (hlk : Cond.fieldLink own idx (clT t k).1 (clT t k).2.1 (clT t k).2.2.1 ∈ BIG) (hdg : decode cc pc = .ok (.putfield idx, 3))
    (kk : ∀ H1 locs1, HR g (sI M a k x) H1 → LK g s H1 locs1 → W p l e R s m args below meth c H1 locs1 cells slots Q (F0 m (pc + 3) ls rest)) : W p l e R s m args below meth c H locs cells slots Q (F0 m pc ls (.int x :: .ref (adr g a) :: rest)) :=
  m_put X hH.1 (ty_ge hty (by rintro rfl; simp [isC] at hc)).2 hL ho hty hc ht hk hfin hfy hnr hft (by rw [hd]; exact vV_sI_self x) (fun j hj => vV_sI_ne x (fun h => hj h.2)) (fun b d j hb => vV_sI_ne x (fun h => hb h.1)) hlk hdg (fun H1 locs1 h1 h2 => kk H1 locs1 ⟨h1, hH.2.sI a k x⟩ h2)
theorem m_putJ (X : CX g l p s m args meth c own cc nL) (hH : HR g M H) (hL : LK g s H locs) (ho : okC t) (hty : tyT a = t) (hc : isC t = true) (ht : t < 20) (hk : k < clN t) (hd : kd t k = 1) (hfin : (clT t k).2.2.2 = false) {x : Int64} (hfy : clY t k = .long)
    (hlk : Cond.fieldLink own idx (clT t k).1 (clT t k).2.1 (clT t k).2.2.1 ∈ BIG) (hdg : decode cc pc = .ok (.putfield idx, 3))
    (kk : ∀ H1 locs1, HR g (sJ M a k x) H1 → LK g s H1 locs1 → W p l e R s m args below meth c H1 locs1 cells slots Q (F0 m (pc + 3) ls rest)) : W p l e R s m args below meth c H locs cells slots Q (F0 m pc ls (.long x :: .ref (adr g a) :: rest)) :=
  m_put X hH.1 (ty_ge hty (by rintro rfl; simp [isC] at hc)).2 hL ho hty hc ht hk hfin hfy rfl rfl (by rw [hd]; exact vV_sJ_self x) (fun j hj => vV_sJ_ne x (fun h => hj h.2)) (fun b d j hb => vV_sJ_ne x (fun h => hb h.1)) hlk hdg (fun H1 locs1 h1 h2 => kk H1 locs1 ⟨h1, hH.2.sJ a k x⟩ h2)
/-- Command.verb: a verb's constant -/
theorem m_putQ (X : CX g l p s m args meth c own cc nL) (hH : HR g M H) (hL : LK g s H locs) (ho : okC t) (hty : tyT a = t) (hc : isC t = true) (ht : t < 20) (hk : k < clN t) (hd : kd t k = 3) (hfin : (clT t k).2.2.2 = false) {i : Nat} (hi : i < 11) {cn : String} (hfy : clY t k = .object cn)
    (hlk : Cond.fieldLink own idx (clT t k).1 (clT t k).2.1 (clT t k).2.2.1 ∈ BIG) (hdg : decode cc pc = .ok (.putfield idx, 3))
    (kk : ∀ H1 locs1, HR g (sR M a k (i + 1)) H1 → LK g s H1 locs1 → W p l e R s m args below meth c H1 locs1 cells slots Q (F0 m (pc + 3) ls rest)) : W p l e R s m args below meth c H locs cells slots Q (F0 m pc ls (.ref (gV g i) :: .ref (adr g a) :: rest)) := by
  refine m_put (M' := sR M a k (i + 1)) X hH.1 (ty_ge hty (by rintro rfl; simp [isC] at hc)).2 hL ho hty hc ht hk hfin hfy rfl rfl (by rw [hd]; show vQ g (mR _ a k) = _; rw [mR_sR, if_pos ⟨rfl, rfl⟩, vQ_pos (by omega)]; rfl) (fun j hj => vV_sR_ne _ (fun h => hj h.2)) (fun b d j hb => vV_sR_ne _ (fun h => hb h.1)) hlk hdg (fun H1 locs1 h1 h2 => kk H1 locs1 ⟨h1, fun b j h3 h4 h5 => ?_⟩ h2)
  by_cases z : b = a ∧ j = k
  · obtain ⟨rfl, rfl⟩ := z
    rw [mR_sR, if_pos ⟨rfl, rfl⟩]
    exact ⟨fun h6 => absurd h6 (by rw [hty, hd]; decide), fun _ => by omega⟩
  · rw [mR_sR, if_neg z]
    exact hH.2 b j h3 h4 h5
theorem m_alen (X : CX g l p s m args meth c own cc nL) (hH : HR g M H) (hty : tyT a = t) (hc : isA t = true) (ht : ¬ t < 20) {v : Int32} (hv : Int32.ofNat (alen t) = v) (hdg : decode cc pc = .ok (.arraylength, 1))
    (kk : W p l e R s m args below meth c H locs cells slots Q (F0 m (pc + 1) ls (.int v :: rest))) : W p l e R s m args below meth c H locs cells slots Q (F0 m pc ls (.ref (adr g a) :: rest)) := by
  obtain ⟨hx, hb, -, hown, hts, hK, -⟩ := X
  have hr := ty_ge hty (by rintro rfl; simp at ht)
  have q := hH.1.arr hr.1 hr.2 hty ht
  exact W.alen (n := v) hx hb q ((hK.2.1 t hc).1 _ _) (by rw [arrV_size]; exact hv) rfl rfl hdg kk
theorem m_iald (X : CX g l p s m args meth c own cc nL) (hH : HR g M H) (hty : tyT a = t) (hc : isA t = true) (ht : ¬ t < 20) (hd : ∀ j, kd t j = 0) (he : eT t = .int) {n : Nat} (hn : alen t = n) {i : Int32} (hin : inb i n = true) (hdg : decode cc pc = .ok (.iaload, 1))
    (kk : W p l e R s m args below meth c H locs cells slots Q (F0 m (pc + 1) ls (.int (mI M a i.toNatClampNeg) :: rest))) : W p l e R s m args below meth c H locs cells slots Q (F0 m pc ls (.int i :: .ref (adr g a) :: rest)) := by
  obtain ⟨hx, hb, -, hown, hts, hK, -⟩ := X
  have hr := ty_ge hty (by rintro rfl; simp at ht)
  have q := hH.1.arr hr.1 hr.2 hty ht
  have hin := inb_in hin
  subst hn
  have hlt : i.toNatClampNeg < alen t := Nat.not_le.mp fun q => hin (Or.inr q)
  refine W.iald (v := .int (mI M a i.toNatClampNeg)) hx hb q (by have := (hK.2.1 t hc).1; rw [he] at this; exact this _ _) (fun q => by cases q) (by show ¬ (i < 0 ∨ (arrV _ _ _).slots.size ≤ _); rw [arrV_size]; exact hin) ?_ rfl rfl hdg kk
  rw [arrV_read _ _ hlt, hd]; rfl
theorem m_cald (X : CX g l p s m args meth c own cc nL) (hH : HR g M H) (hty : tyT a = t) (hc : isA t = true) (ht : ¬ t < 20) (hd : ∀ j, kd t j = 0) (he : eT t = .char) {n : Nat} (hn : alen t = n) {i : Int32} (hin : inb i n = true) (hdg : decode cc pc = .ok (.caload, 1))
    (kk : W p l e R s m args below meth c H locs cells slots Q (F0 m (pc + 1) ls (.int (mI M a i.toNatClampNeg) :: rest))) : W p l e R s m args below meth c H locs cells slots Q (F0 m pc ls (.int i :: .ref (adr g a) :: rest)) := by
  obtain ⟨hx, hb, -, hown, hts, hK, -⟩ := X
  have hr := ty_ge hty (by rintro rfl; simp at ht)
  have q := hH.1.arr hr.1 hr.2 hty ht
  have hin := inb_in hin
  subst hn
  have hlt : i.toNatClampNeg < alen t := Nat.not_le.mp fun q => hin (Or.inr q)
  refine W.cald (v := .int (mI M a i.toNatClampNeg)) hx hb q (by have := (hK.2.1 t hc).1; rw [he] at this; exact this _ _) (fun q => by cases q) (by show ¬ (i < 0 ∨ (arrV _ _ _).slots.size ≤ _); rw [arrV_size]; exact hin) ?_ rfl rfl hdg kk
  rw [arrV_read _ _ hlt, hd]; rfl
theorem m_lald (X : CX g l p s m args meth c own cc nL) (hH : HR g M H) (hty : tyT a = t) (hc : isA t = true) (ht : ¬ t < 20) (hd : ∀ j, kd t j = 1) (he : eT t = .long) {n : Nat} (hn : alen t = n) {i : Int32} (hin : inb i n = true) (hdg : decode cc pc = .ok (.laload, 1))
    (kk : W p l e R s m args below meth c H locs cells slots Q (F0 m (pc + 1) ls (.long (mJ M a i.toNatClampNeg) :: rest))) : W p l e R s m args below meth c H locs cells slots Q (F0 m pc ls (.int i :: .ref (adr g a) :: rest)) := by
  obtain ⟨hx, hb, -, hown, hts, hK, -⟩ := X
  have hr := ty_ge hty (by rintro rfl; simp at ht)
  have q := hH.1.arr hr.1 hr.2 hty ht
  have hin := inb_in hin
  subst hn
  have hlt : i.toNatClampNeg < alen t := Nat.not_le.mp fun q => hin (Or.inr q)
  refine W.lald (v := .long (mJ M a i.toNatClampNeg)) hx hb q (by have := (hK.2.1 t hc).1; rw [he] at this; exact this _ _) (fun q => by cases q) (by show ¬ (i < 0 ∨ (arrV _ _ _).slots.size ≤ _); rw [arrV_size]; exact hin) ?_ rfl rfl hdg kk
  rw [arrV_read _ _ hlt, hd]; rfl
theorem m_dald (X : CX g l p s m args meth c own cc nL) (hH : HR g M H) (hty : tyT a = t) (hc : isA t = true) (ht : ¬ t < 20) (hd : ∀ j, kd t j = 4) (he : eT t = .double) {n : Nat} (hn : alen t = n) {i : Int32} (hin : inb i n = true) (hdg : decode cc pc = .ok (.daload, 1))
    (kk : W p l e R s m args below meth c H locs cells slots Q (F0 m (pc + 1) ls (.double (mD M a i.toNatClampNeg) :: rest))) : W p l e R s m args below meth c H locs cells slots Q (F0 m pc ls (.int i :: .ref (adr g a) :: rest)) := by
  obtain ⟨hx, hb, -, hown, hts, hK, -⟩ := X
  have hr := ty_ge hty (by rintro rfl; simp at ht)
  have q := hH.1.arr hr.1 hr.2 hty ht
  have hin := inb_in hin
  subst hn
  have hlt : i.toNatClampNeg < alen t := Nat.not_le.mp fun q => hin (Or.inr q)
  refine W.dald (v := .double (mD M a i.toNatClampNeg)) hx hb q (by have := (hK.2.1 t hc).1; rw [he] at this; exact this _ _) (fun q => by cases q) (by show ¬ (i < 0 ∨ (arrV _ _ _).slots.size ≤ _); rw [arrV_size]; exact hin) ?_ rfl rfl hdg kk
  rw [arrV_read _ _ hlt, hd]; rfl
theorem m_aald (X : CX g l p s m args meth c own cc nL) (hH : HR g M H) (hty : tyT a = t) (hc : isA t = true) (ht : ¬ t < 20) (hd : ∀ j, kd t j = 2) (he : (eT t).isReference = true) {n t2 : Nat} (hn : alen t = n) (h2 : ∀ j, rt t j = t2) {i : Int32} (hin : inb i n = true) (hdg : decode cc pc = .ok (.aaload, 1))
    (kk : tyT (mR M a i.toNatClampNeg) = t2 → W p l e R s m args below meth c H locs cells slots Q (F0 m (pc + 1) ls (.ref (adr g (mR M a i.toNatClampNeg)) :: rest))) : W p l e R s m args below meth c H locs cells slots Q (F0 m pc ls (.int i :: .ref (adr g a) :: rest)) := by
  obtain ⟨hx, hb, -, hown, hts, hK, -⟩ := X
  have hr := ty_ge hty (by rintro rfl; simp at ht)
  have q := hH.1.arr hr.1 hr.2 hty ht
  have hin := inb_in hin
  subst hn
  have hlt : i.toNatClampNeg < alen t := Nat.not_le.mp fun q => hin (Or.inr q)
  have hwt := (hH.2 a i.toNatClampNeg hr.1 hr.2 (by unfold slotsOf; rw [hty, if_neg ht]; exact hlt)).1 (by rw [hty]; exact hd _)
  refine W.aald (v := .ref (adr g (mR M a i.toNatClampNeg))) (ty := eT t) hx hb q ((hK.2.1 t hc).1 _ _) he (fun q => by cases q) (by show ¬ (i < 0 ∨ (arrV _ _ _).slots.size ≤ _); rw [arrV_size]; exact hin) ?_ rfl rfl hdg (kk (by rw [hwt.2.2, hty, h2]))
  rw [arrV_read _ _ hlt, hd]
  show some (vR g (mR M a i.toNatClampNeg)) = _
  rw [vR_pos hwt.1]
/-- an array with one place changed -/
theorem m_arr {n : Nat} (hH : HR0 g n M H) {H' : Heap} {v : Value} {i : Nat} (hty : tyT a = t) (ht : ¬ t < 20) (h1 : 1 ≤ a) (e1 : H'[adr g a]? = some (arrV (gA g t) (alen t) (updV (fun k => vV g M (kd t k) a k) i v))) (hz : H'.size = H.size) (oq : ∀ q, q ≠ adr g a → H'[q]? = H[q]?) (hv : vV g M' (kd t i) a i = v) (hj : ∀ j, j ≠ i → vV g M' (kd t j) a j = vV g M (kd t j) a j) (ho' : ∀ b d j, b ≠ a → vV g M' d b j = vV g M d b j) : HR0 g n M' H' := by
  refine hH.put h1 oq hz ?_ ho'
  unfold CellAt
  rw [hty, if_neg ht, e1]
  congr 2
  funext q
  by_cases hq : q = i
  · subst hq; simp [updV, hv]
  · simp [updV, hq, hj q hq]
theorem LK.put (hL : LK g s H locs) {H' : Heap} (hz : H'.size = H.size) {k : Nat} : LK g s H' (locs ++ [⟨adr g a, k⟩]) :=
  ⟨by rw [hz]; exact hL.1, fun q hq => by
    rcases List.mem_append.mp hq with h | h
    · exact hL.2 q h
    · rw [List.mem_singleton.mp h]; unfold adr; exact Nat.le_add_right _ _⟩
theorem m_iast (X : CX g l p s m args meth c own cc nL) (hH : HR g M H) (hL : LK g s H locs) (hty : tyT a = t) (hc : isA t = true) (ht : ¬ t < 20) (hd : ∀ j, kd t j = 0) (he : eT t = .int) {n : Nat} (hn : alen t = n) {i x : Int32} (hin : inb i n = true) (hdg : decode cc pc = .ok (.iastore, 1))
    (kk : ∀ H1 locs1, HR g (sI M a i.toNatClampNeg x) H1 → LK g s H1 locs1 → W p l e R s m args below meth c H1 locs1 cells slots Q (F0 m (pc + 1) ls rest)) : W p l e R s m args below meth c H locs cells slots Q (F0 m pc ls (.int x :: .int i :: .ref (adr g a) :: rest)) := by
  obtain ⟨hx, hb, -, hown, hts, hK, -⟩ := X
  have hr := ty_ge hty (by rintro rfl; simp at ht)
  have q := hH.1.arr hr.1 hr.2 hty ht
  have hin := inb_in hin
  subst hn
  refine W.iast hx hb q (by have := (hK.2.1 t hc).1; rw [he] at this; exact this _ _) (fun q => by cases q) (by show ¬ (i < 0 ∨ (arrV _ _ _).slots.size ≤ _); rw [arrV_size]; exact hin) rfl rfl hdg fun H1 e1 z oq => ?_
  rw [arrV_store] at e1
  exact kk H1 _ ⟨m_arr hH.1 hty ht hr.1 e1 z oq (by rw [hd]; exact vV_sI_self x) (fun j hj => vV_sI_ne x (fun h => hj h.2)) (fun b d j hb => vV_sI_ne x (fun h => hb h.1)), hH.2.sI _ _ _⟩ (hL.put z)
theorem m_cast (X : CX g l p s m args meth c own cc nL) (hH : HR g M H) (hL : LK g s H locs) (hty : tyT a = t) (hc : isA t = true) (ht : ¬ t < 20) (hd : ∀ j, kd t j = 0) (he : eT t = .char) {n : Nat} (hn : alen t = n) {i x : Int32} (hin : inb i n = true) (hdg : decode cc pc = .ok (.castore, 1))
    (kk : ∀ H1 locs1, HR g (sI M a i.toNatClampNeg (vp_nar .char x)) H1 → LK g s H1 locs1 → W p l e R s m args below meth c H1 locs1 cells slots Q (F0 m (pc + 1) ls rest)) : W p l e R s m args below meth c H locs cells slots Q (F0 m pc ls (.int x :: .int i :: .ref (adr g a) :: rest)) := by
  obtain ⟨hx, hb, -, hown, hts, hK, -⟩ := X
  have hr := ty_ge hty (by rintro rfl; simp at ht)
  have q := hH.1.arr hr.1 hr.2 hty ht
  have hin := inb_in hin
  subst hn
  refine W.cast hx hb q (by have := (hK.2.1 t hc).1; rw [he] at this; exact this _ _) (fun q => by cases q) (by show ¬ (i < 0 ∨ (arrV _ _ _).slots.size ≤ _); rw [arrV_size]; exact hin) rfl rfl hdg fun H1 e1 z oq => ?_
  rw [arrV_store] at e1
  refine kk H1 _ ⟨m_arr hH.1 hty ht hr.1 e1 z oq (by rw [hd, vV_sI_self]; simp [vp_nar]; try rfl) (fun j hj => vV_sI_ne _ (fun h => hj h.2)) (fun b d j hb => vV_sI_ne _ (fun h => hb h.1)), hH.2.sI _ _ _⟩ (hL.put z)
theorem m_last (X : CX g l p s m args meth c own cc nL) (hH : HR g M H) (hL : LK g s H locs) (hty : tyT a = t) (hc : isA t = true) (ht : ¬ t < 20) (hd : ∀ j, kd t j = 1) (he : eT t = .long) {n : Nat} (hn : alen t = n) {i : Int32} {x : Int64} (hin : inb i n = true) (hdg : decode cc pc = .ok (.lastore, 1))
    (kk : ∀ H1 locs1, HR g (sJ M a i.toNatClampNeg x) H1 → LK g s H1 locs1 → W p l e R s m args below meth c H1 locs1 cells slots Q (F0 m (pc + 1) ls rest)) : W p l e R s m args below meth c H locs cells slots Q (F0 m pc ls (.long x :: .int i :: .ref (adr g a) :: rest)) := by
  obtain ⟨hx, hb, -, hown, hts, hK, -⟩ := X
  have hr := ty_ge hty (by rintro rfl; simp at ht)
  have q := hH.1.arr hr.1 hr.2 hty ht
  have hin := inb_in hin
  subst hn
  refine W.last hx hb q (by have := (hK.2.1 t hc).1; rw [he] at this; exact this _ _) (fun q => by cases q) (by show ¬ (i < 0 ∨ (arrV _ _ _).slots.size ≤ _); rw [arrV_size]; exact hin) rfl rfl hdg fun H1 e1 z oq => ?_
  rw [arrV_store] at e1
  exact kk H1 _ ⟨m_arr hH.1 hty ht hr.1 e1 z oq (by rw [hd]; exact vV_sJ_self x) (fun j hj => vV_sJ_ne x (fun h => hj h.2)) (fun b d j hb => vV_sJ_ne x (fun h => hb h.1)), hH.2.sJ _ _ _⟩ (hL.put z)
theorem m_dast (X : CX g l p s m args meth c own cc nL) (hH : HR g M H) (hL : LK g s H locs) (hty : tyT a = t) (hc : isA t = true) (ht : ¬ t < 20) (hd : ∀ j, kd t j = 4) (he : eT t = .double) {n : Nat} (hn : alen t = n) {i : Int32} {x : UInt64} (hin : inb i n = true) (hdg : decode cc pc = .ok (.dastore, 1))
    (kk : ∀ H1 locs1, HR g (sD M a i.toNatClampNeg x) H1 → LK g s H1 locs1 → W p l e R s m args below meth c H1 locs1 cells slots Q (F0 m (pc + 1) ls rest)) : W p l e R s m args below meth c H locs cells slots Q (F0 m pc ls (.double x :: .int i :: .ref (adr g a) :: rest)) := by
  obtain ⟨hx, hb, -, hown, hts, hK, -⟩ := X
  have hr := ty_ge hty (by rintro rfl; simp at ht)
  have q := hH.1.arr hr.1 hr.2 hty ht
  have hin := inb_in hin
  subst hn
  refine W.dast hx hb q (by have := (hK.2.1 t hc).1; rw [he] at this; exact this _ _) (fun q => by cases q) (by show ¬ (i < 0 ∨ (arrV _ _ _).slots.size ≤ _); rw [arrV_size]; exact hin) rfl rfl hdg fun H1 e1 z oq => ?_
  rw [arrV_store] at e1
  exact kk H1 _ ⟨m_arr hH.1 hty ht hr.1 e1 z oq (by rw [hd]; exact vV_sD_self x) (fun j hj => vV_sD_ne x (fun h => hj h.2)) (fun b d j hb => vV_sD_ne x (fun h => hb h.1)), hH.2.sD _ _ _⟩ (hL.put z)
end MYR
end
section
/-! MY CALLS: a contract out of a walk, calls by contract, ends -/
abbrev rvI : Int32 → Option Value := fun x => some (.int x)
abbrev rvJ : Int64 → Option Value := fun x => some (.long x)
abbrev rvU : Unit → Option Value := fun _ => none
abbrev rvR (g : GP) : Nat → Option Value := fun a => some (.ref (adr g a))
abbrev rvF : UInt32 → Option Value := fun x => some (.float x)
abbrev rvD : UInt64 → Option Value := fun x => some (.double x)
theorem CO_of {τ : Type} {g : GP} {l : Launch} {y : MethodName} {cc : ByteArray} {nL : Nat} {ret : Option FieldType} {fr lo : Nat} {rv : τ → Option Value} {As : List Value} {M M' : Mem} {o : τ ⊕ String} (hl : l.stackTraces = false) (hy : plainName y.cls = true) (hn : (lg_sl As).length ≤ nL)
    (body : ∀ (p : Program) (e : Env) (s : State) (m : MethodId) (below : List Frame) (meth : Method) (c : Code) (ls : Array Slot), CX g l p s m As.toArray meth c y.cls cc nL → meth.sig.returnType = ret → (∀ x ∈ c.exceptionTable.toList, False) → HR g M s.heap → LK g s s.heap [] → lv_has ls nL (lv_args 0 As) →
      W p l e (rmO o fr lo) s m As.toArray below meth c s.heap [] 0 0 (MQO g below rv o M' As.toArray s) (F0 m 0 ls [])) : CO g l y cc nL ret fr lo rv As M o M' := by
  refine vx_ofW (cc := cc) (maxL := nL) (ret := ret) hy rfl ?_
  intro p e s m args below meth c s₁ B hml htb hv
  obtain ⟨rfl, hH, hK⟩ := hv
  have hl2 := lv_entry As hn
  rw [lg_entry_eq]
  have hts := atoms_spec (ws := .code y cc nL ret :: BIG) B.pre
  exact body p e s m below meth c _ ⟨B.exec, B.bytes, hml, findClass_of_methodNamed B.named, fun w h => hts w (List.mem_cons_of_mem _ h), hK, B.notSynchronized, hl, hH.1.1⟩ B.returns htb hH ⟨Nat.le_refl _, fun _ h => nomatch h⟩ hl2
/-- what the tables have of a callee -/
def okY (y : MethodName) (cc : ByteArray) (nL : Nat) (ret : Option FieldType) (n : Nat) : Prop :=
  Cond.code y cc nL ret ∈ BIG ∧ Cond.initialized y.cls ∈ BIG ∧ y.cls ≠ "java/lang/invoke/MethodHandle" ∧ y.cls ≠ "java/lang/invoke/VarHandle" ∧ (parseMethodDescriptor y.desc).map (fun d => d.parameters.length) = some n
def okV (y : MethodName) (cc : ByteArray) (nL : Nat) (ret : Option FieldType) (n : Nat) : Prop := okY y cc nL ret n ∧ Cond.instanceMethod y ∈ BIG ∧ Cond.selects y.cls y y ∈ BIG
def okS (y : MethodName) (cc : ByteArray) (nL : Nat) (ret : Option FieldType) (n : Nat) : Prop := okY y cc nL ret n ∧ Cond.static y ∈ BIG
section MYC
variable {p : Program} {l : Launch} {e : Env} {R : Room} {s : State} {m : MethodId} {args : Array Value} {below : List Frame} {meth : Method} {c : Code} {H : Heap} {locs : List Loc} {cells slots : Nat} {Q : State → Prop}
variable {cc cy : ByteArray} {pc : Nat} {ls : Array Slot} {rest st : List Value} {g : GP} {own : String} {nL nY a t n idx fr lo : Nat} {M M1 : Mem} {y : MethodName} {ret : Option FieldType} {As : List Value}
theorem my_blind {av : List Value} : FrameBlind (va_Pc av (fun U => HR g M U.heap ∧ KN g U)) := fun a U gf mk q => by
  obtain ⟨q0, q1, qK⟩ := q
  exact ⟨q0, q1, KN.warm (u := U) (U := U.calling gf mk a) (State.WarmedH.refl U) qK⟩
theorem my_recv (X : CX g l p s m args meth c own cc nL) (hH : HR g M H) (hty : tyT a = t) (hc : isC t = true) (ht : t < 20) : ∃ cellB : Cell, H[adr g a]? = some cellB ∧ cellB.vm.isStatics = false ∧ s.vm.findClass (clR t) = some cellB.cls := by
  obtain ⟨-, -, -, -, -, hK, -⟩ := X
  have hr := ty_ge hty (by rintro rfl; simp [isC] at hc)
  obtain ⟨cell, q1, q2, q3, -⟩ := hH.1.obj hr.1 hr.2 hty ht
  exact ⟨cell, q1, by rw [q3]; rfl, by rw [q2]; exact (hK.1 t hc).2.1⟩
theorem my_cwB (X : CX g l p s m args meth c own cc nL) {τ : Type} {o : τ ⊕ String} (hy : okY y cy nY ret n) (hlk : Cond.methodLink own idx y ∈ BIG) (hR : fr + 1 ≤ R.frames ∧ 8 + (nY + 11) + lo ≤ R.locals) : CallB R s args own idx y cy nY ret (.code y cy nY ret :: BIG) (rmO o fr lo) (mcO o) (msO o) n := by
  obtain ⟨-, -, -, -, hts, -⟩ := X
  obtain ⟨h1, h2, h3, h4, h5⟩ := hy
  have hG : GoodIn BIG (Cond.code y cy nY ret :: BIG) := fun w hw => by
    rcases List.mem_cons.mp hw with e | h
    · rw [e]; exact ⟨h1, good_of_word (big_good h1)⟩
    · exact ⟨h, good_of_word (big_good h)⟩
  exact callB_of n hts hG rfl rfl rfl (hts _ h2) (hts _ hlk) ⟨h3, h4, h5⟩ hR
theorem my_fix (X : CX g l p s m args meth c own cc nL) : CallFix p m c cc nL s args BIG own := ⟨X.1, X.2.1, X.2.2.1, X.2.2.2.1, X.2.2.2.2.1⟩
theorem my_runV {τ : Type} {rv : τ → Option Value} {o : τ ⊕ String} (X : CX g l p s m args meth c own cc nL) (hH : HR g M H) (hls : ls.size = nL) (hM : CO g l y cy nY ret fr lo rv (.ref (adr g a) :: As) M o M1) (hy : okV y cy nY ret n) (hlk : Cond.methodLink own idx y ∈ BIG) (hty : tyT a = t) (hc : isC t = true) (ht : t < 20) (hcl : y.cls = clR t) (hn : As.length = n) (hst : st = As.reverse ++ .ref (adr g a) :: rest)
    (hR : fr + 1 ≤ R.frames ∧ 8 + (nY + 11) + lo ≤ R.locals) (hf : cells + mcO o ≤ R.cells ∧ slots + msO o ≤ R.slots) (hW : (rest.map fun v => v.category).sum ≤ 8) (hdg : decode cc pc = .ok (.invokevirtual idx, 3)) :
    vx_Run p l e R s m args below meth c H locs cells slots (mcO o) (msO o) (F0 m pc ls st) rest (QcO g rv o M1 (Value.ref (adr g a) :: As).toArray) (XcO g o M1) (fun q => gN g ≤ q) := by
  have hrc := my_recv X hH hty hc ht
  have hts := X.2.2.2.2.1
  refine vx_runV (C := clR t) (As := As) (rest := rest) (my_fix X) hM ⟨my_cwB X hy.1 hlk hR, hts _ hy.2.1, ?_⟩ ⟨my_blind, hrc, fun U hU hW1 => ⟨rfl, by rw [hU]; exact hH, X.2.2.2.2.2.1.warm hW1⟩⟩ rfl hn hls hst (by show 2 * 0 + _ ≤ _; omega) hdg hf
  have h9 := hts _ hy.2.2
  rw [hcl] at h9
  exact h9
theorem my_runS {τ : Type} {rv : τ → Option Value} {o : τ ⊕ String} (X : CX g l p s m args meth c own cc nL) (hH : HR g M H) (hls : ls.size = nL) (hM : CO g l y cy nY ret fr lo rv As M o M1) (hy : okS y cy nY ret n) (hlk : Cond.methodLink own idx y ∈ BIG) (hn : As.length = n) (hst : st = As.reverse ++ rest)
    (hR : fr + 1 ≤ R.frames ∧ 8 + (nY + 11) + lo ≤ R.locals) (hf : cells + mcO o ≤ R.cells ∧ slots + msO o ≤ R.slots) (hW : (rest.map fun v => v.category).sum ≤ 8) (hdg : decode cc pc = .ok (.invokestatic idx, 3)) :
    vx_Run p l e R s m args below meth c H locs cells slots (mcO o) (msO o) (F0 m pc ls st) rest (QcO g rv o M1 As.toArray) (XcO g o M1) (fun q => gN g ≤ q) := by
  have hts := X.2.2.2.2.1
  exact vx_runS (As := As) (rest := rest) (my_fix X) hM ⟨my_cwB X hy.1 hlk hR, hts _ hy.2⟩ ⟨my_blind, fun U hU hW1 => ⟨rfl, by rw [hU]; exact hH, X.2.2.2.2.2.1.warm hW1⟩⟩ rfl hn hls hst (by show 2 * 0 + _ ≤ _; omega) hdg hf
/-- behind a call that returns -/
theorem my_done {τ : Type} {rv : τ → Option Value} {v : τ} {aa : Array Value} (hL : LK g s H locs) (hr : vx_Run p l e R s m args below meth c H locs cells slots (mcO (.inl v : τ ⊕ String)) (msO (.inl v : τ ⊕ String)) (F0 m pc ls st) rest (QcO g rv (.inl v) M1 aa) (XcO g (.inl v : τ ⊕ String) M1) (fun q => gN g ≤ q))
    (kk : ∀ H1 locs1, HR g M1 H1 → LK g s H1 locs1 → W p l e R s m args below meth c H1 locs1 cells slots Q (F0 m (pc + 3) ls ((rv v).toList ++ rest))) : W p l e R s m args below meth c H locs cells slots Q (F0 m pc ls st) := by
  intro T hT X
  rcases hr T hT X with ⟨w, st₀, t, T', L, h0, X', hL2, e1, e2, ⟨v2, e3, e4, hH1, hz⟩, go⟩ | ⟨q, st₀, t, T', L, E, ce, h0, X', hL2, e1, e2, ⟨e3, -, -⟩, -⟩
  · cases e3
    cases Outcome.returned.inj e4
    obtain ⟨t2, a1, b1⟩ := kk T'.heap (locs ++ L) (by rw [e1]; exact hH1) ⟨Nat.le_trans hL.1 (by rw [e1, ← h0]; exact hz), fun q hq => (List.mem_append.mp hq).elim (hL.2 q) (hL2 q)⟩ T' rfl X'
    exact ⟨t2, go t2 a1, b1⟩
  · cases e3
/-- behind a call that throws, not caught here -/
theorem my_thrown {τ σ : Type} {rv : τ → Option Value} {rw0 : σ → Option Value} {E : String} {aa : Array Value} {R : Room} (hl0 : meth.locks = false) (htb : ∀ x ∈ c.exceptionTable.toList, False) (hL : LK g s H locs) (hr : vx_Run p l e R s m args below meth c H locs 0 0 (mcO (.inr E : τ ⊕ String)) (msO (.inr E : τ ⊕ String)) (F0 m pc ls st) rest (QcO g rv (.inr E) M1 aa) (XcO g (.inr E : τ ⊕ String) M1) (fun q => gN g ≤ q)) :
    W p l e R s m args below meth c H locs 0 0 (MQO g below rw0 (.inr E) M1 args s) (F0 m pc ls st) := by
  intro T hT X
  rcases hr T hT X with ⟨w, st₀, t, T', L, h0, X', hL2, e1, e2, ⟨v2, e3, -⟩, -⟩ | ⟨q, st₀, t, T', L, E2, ce, h0, X', hL2, e1, e2, ⟨e3, hH1, hz⟩, hce, hcv, hcl, go⟩
  · cases e3
  · cases e3
    obtain ⟨t2, a1, b1⟩ := vx_out (rest := rest) (pc := pc) (ls := ls) (E := E) (ce := ce) (q := q) (Qc := QcO g rw0 (.inr E) M1) (XC := XcO g (.inr E : σ ⊕ String) M1) (mc := 1) (ms := 6) (free := fun q => gN g ≤ q) (H := T'.heap) (locs := locs ++ L) (fun x hx => (htb x hx).elim) hl0 (by rw [e1]; exact hce) hcv hcl
      (fun t3 ht3 hA3 => ⟨rfl, by rw [ht3, e1]; exact hH1, by rw [ht3, e1]; exact Nat.le_trans hL.1 (by rw [← h0]; exact hz)⟩) (fun z hz => (List.mem_append.mp hz).elim (hL.2 z) (hL2 z)) (Nat.le_refl _) (Nat.le_refl _) T' rfl X'
    exact ⟨t2, go.trans a1, b1⟩
/-- the ends -/
theorem m_iret (X : CX g l p s m args meth c own cc nL) (hr : meth.sig.returnType = some .int) (hH : HR g M H) (hL : LK g s H locs) {x : Int32} (hdg : decode cc pc = .ok (.ireturn, 1)) : W p l e R s m args below meth c H locs 0 0 (MQO g below rvI (.inl x) M args s) (F0 m pc ls [.int x]) := by
  have hlk := X.2.2.2.2.2.2.1
  exact vx_ret (W.iret X.1 X.2.1 hr (fun t ht hW => ⟨x, rfl, rfl, by rw [ht]; exact hH, by rw [ht]; exact hL.1⟩) hL.2 hdg hlk)
theorem m_zret (X : CX g l p s m args meth c own cc nL) {ty : FieldType} (hr : meth.sig.returnType = some ty) (hH : HR g M H) (hL : LK g s H locs) {x : Int32} (hn : narrow ty (.int x) = .int x) (hdg : decode cc pc = .ok (.ireturn, 1)) : W p l e R s m args below meth c H locs 0 0 (MQO g below rvI (.inl x) M args s) (F0 m pc ls [.int x]) := by
  have hlk := X.2.2.2.2.2.2.1
  exact vx_ret (W.zret X.1 X.2.1 hr hn (fun t ht hW => ⟨x, rfl, rfl, by rw [ht]; exact hH, by rw [ht]; exact hL.1⟩) hL.2 hdg hlk)
theorem m_vret (X : CX g l p s m args meth c own cc nL) (hr : meth.sig.returnType = none) (hH : HR g M H) (hL : LK g s H locs) (hdg : decode cc pc = .ok (.return_, 1)) : W p l e R s m args below meth c H locs 0 0 (MQO g below rvU (.inl ()) M args s) (F0 m pc ls []) := by
  have hlk := X.2.2.2.2.2.2.1
  exact vx_ret (W.vret X.1 X.2.1 hr (fun t ht hW => ⟨(), rfl, rfl, by rw [ht]; exact hH, by rw [ht]; exact hL.1⟩) hL.2 hdg hlk)
theorem m_aret (X : CX g l p s m args meth c own cc nL) {ty : FieldType} (hr : meth.sig.returnType = some ty) (hty : (∃ n, ty = .object n) ∨ ∃ t, ty = .array t) (hH : HR g M H) (hL : LK g s H locs) (hdg : decode cc pc = .ok (.areturn, 1)) : W p l e R s m args below meth c H locs 0 0 (MQO g below (rvR g) (.inl a) M args s) (F0 m pc ls [.ref (adr g a)]) := by
  have hlk := X.2.2.2.2.2.2.1
  exact vx_ret (W.aret X.1 X.2.1 hr hty (Or.inr ⟨_, rfl⟩) (fun t ht hW => ⟨a, rfl, rfl, by rw [ht]; exact hH, by rw [ht]; exact hL.1⟩) hL.2 hdg hlk)
theorem m_lret (X : CX g l p s m args meth c own cc nL) (hr : meth.sig.returnType = some .long) (hH : HR g M H) (hL : LK g s H locs) {x : Int64} (hdg : decode cc pc = .ok (.lreturn, 1)) : W p l e R s m args below meth c H locs 0 0 (MQO g below rvJ (.inl x) M args s) (F0 m pc ls [.long x]) := by
  have hlk := X.2.2.2.2.2.2.1
  exact vx_ret (W.lret X.1 X.2.1 hr (fun t ht hW => ⟨x, rfl, rfl, by rw [ht]; exact hH, by rw [ht]; exact hL.1⟩) hL.2 hdg hlk)
theorem m_fret (X : CX g l p s m args meth c own cc nL) (hr : meth.sig.returnType = some .float) (hH : HR g M H) (hL : LK g s H locs) {x : UInt32} (hdg : decode cc pc = .ok (.freturn, 1)) : W p l e R s m args below meth c H locs 0 0 (MQO g below rvF (.inl x) M args s) (F0 m pc ls [.float x]) := by
  have hlk := X.2.2.2.2.2.2.1
  exact vx_ret (W.fret X.1 X.2.1 hr (fun t ht hW => ⟨x, rfl, rfl, by rw [ht]; exact hH, by rw [ht]; exact hL.1⟩) hL.2 hdg hlk)
theorem m_dret (X : CX g l p s m args meth c own cc nL) (hr : meth.sig.returnType = some .double) (hH : HR g M H) (hL : LK g s H locs) {x : UInt64} (hdg : decode cc pc = .ok (.dreturn, 1)) : W p l e R s m args below meth c H locs 0 0 (MQO g below rvD (.inl x) M args s) (F0 m pc ls [.double x]) := by
  have hlk := X.2.2.2.2.2.2.1
  exact vx_ret (W.dret X.1 X.2.1 hr (fun t ht hW => ⟨x, rfl, rfl, by rw [ht]; exact hH, by rw [ht]; exact hL.1⟩) hL.2 hdg hlk)
end MYC
end
section
/-! MY ROWS once more, handier -/
def lt {α β : Type} (x : β) (k : β → α) : α := k x
def b1 {α β : Type} (x : Option (β × Mem)) (k : β → Mem → Option α) : Option α := match x with
  | none => none
  | some (v, M) => k v M
def nokZ (x : Int32) : Bool := x == 0 || x == 1
def nokC (x : Int32) : Bool := decide (0 ≤ x) && decide (x ≤ 65535) && decide (x.toUInt32.toUInt16.toUInt32.toInt32 = x)
theorem nokZ_n {x : Int32} (h : nokZ x = true) : narrow .boolean (.int x) = .int x := by
  simp only [nokZ, Bool.or_eq_true, beq_iff_eq] at h
  rcases h with rfl | rfl <;> decide
theorem nokZ_f {x : Int32} (h : nokZ x = true) : fits .boolean (.int x) = true := h
theorem nokC_n {x : Int32} (h : nokC x = true) : narrow .char (.int x) = .int x := by
  simp only [nokC, Bool.and_eq_true, decide_eq_true_eq] at h
  show Value.int _ = _
  rw [h.2]
theorem nokC_f {x : Int32} (h : nokC x = true) : fits .char (.int x) = true := by
  simp only [nokC, Bool.and_eq_true, decide_eq_true_eq] at h
  simp [fits, h.1.1, h.1.2]
def nn32 (r : UInt32) : Bool := decide (r &&& 0x7fffffff ≤ 0x7f800000)
def nn64 (r : UInt64) : Bool := decide (r &&& 0x7fffffffffffffff ≤ 0x7ff0000000000000)
theorem nn32_n {r : UInt32} (h : nn32 r = true) : vf_n32 r := by unfold nn32 at h; unfold vf_n32; exact of_decide_eq_true h
theorem nn64_n {r : UInt64} (h : nn64 r = true) : vf_n64 r := by unfold nn64 at h; unfold vf_n64; exact of_decide_eq_true h
def nz (y : Int32) : Bool := decide (¬ y = 0)
theorem nz_n {y : Int32} (h : nz y = true) : ¬ y = 0 := of_decide_eq_true h
def fok (t k d : Nat) : Bool := isC t && Nat.blt t 20 && Nat.blt k (clN t) && Nat.beq (kd t k) d
def pok (t k d : Nat) : Bool := isC t && Nat.blt t 20 && Nat.blt k (clN t) && Nat.beq (kd t k) d && !((clT t k).2.2.2)
theorem fok_s {t k d : Nat} (h : fok t k d = true) : isC t = true ∧ t < 20 ∧ k < clN t ∧ kd t k = d := by
  simp only [fok, Bool.and_eq_true] at h
  exact ⟨h.1.1.1, Nat.le_of_ble_eq_true h.1.1.2, Nat.le_of_ble_eq_true h.1.2, Nat.eq_of_beq_eq_true h.2⟩
theorem pok_s {t k d : Nat} (h : pok t k d = true) : isC t = true ∧ t < 20 ∧ k < clN t ∧ kd t k = d ∧ (clT t k).2.2.2 = false := by
  simp only [pok, Bool.and_eq_true, Bool.not_eq_true'] at h
  exact ⟨h.1.1.1.1, Nat.le_of_ble_eq_true h.1.1.1.2, Nat.le_of_ble_eq_true h.1.1.2, Nat.eq_of_beq_eq_true h.1.2, h.2⟩
theorem sw_def {ps : List (Int × Int)} {d : Int} {x : Int} (h : ∀ q ∈ ps, x ≠ q.1) : Op.lookupswitch.offset ps d x = d := by
  induction ps with
  | nil => rfl
  | cons q r ih =>
    have h1 := h q List.mem_cons_self
    have h2 := ih fun q hq => h q (List.mem_cons_of_mem _ hq)
    unfold Op.lookupswitch.offset
    simp only [Ne.symm h1, if_false, beq_iff_eq, decide_false] at *
    first | exact h2 | simpa [h1, Ne.symm h1] using h2
section MYM
variable {p : Program} {l : Launch} {e : Env} {R : Room} {s : State} {m : MethodId} {args : Array Value} {below : List Frame} {meth : Method} {c : Code} {H : Heap} {locs : List Loc} {cells slots : Nat} {Q mq : State → Prop} {f0 : JFrame}
variable {cc cy : ByteArray} {pc : Nat} {ls : Array Slot} {rest st : List Value} {g : GP} {own : String} {nL nY a t k n idx fr lo : Nat} {M M1 M2 : Mem} {y : MethodName} {ret : Option FieldType} {As : List Value}
theorem q_lt {α β : Type} {r0 : α} {x : β} {k : β → Option α} (h : ∀ y, y = x → W p l e R s m args below meth c H locs cells slots (GQ (k y) r0 mq) f0) : W p l e R s m args below meth c H locs cells slots (GQ (lt x k) r0 mq) f0 := h x rfl
theorem q_b1 {α β : Type} {r0 : α} {x : Option (β × Mem)} {k : β → Mem → Option α} (h : ∀ v M, x = some (v, M) → W p l e R s m args below meth c H locs cells slots (GQ (k v M) r0 mq) f0) : W p l e R s m args below meth c H locs cells slots (GQ (b1 x k) r0 mq) f0 := by
  match x with
  | none => exact q_none
  | some (v, M) => exact h v M rfl
theorem q_out {α : Type} {r0 : α} {f : Option α} (hf : f = some r0) (k : W p l e R s m args below meth c H locs cells slots (GQ f r0 mq) f0) : W p l e R s m args below meth c H locs cells slots mq f0 := by
  intro T hT X
  obtain ⟨t, a, b⟩ := k T hT X
  exact ⟨t, a, b hf⟩
theorem q_topI {x y : Int32} (h : y = x) (k : W p l e R s m args below meth c H locs cells slots Q (F0 m pc ls (.int y :: rest))) : W p l e R s m args below meth c H locs cells slots Q (F0 m pc ls (.int x :: rest)) := h ▸ k
theorem q_topJ {x y : Int64} (h : y = x) (k : W p l e R s m args below meth c H locs cells slots Q (F0 m pc ls (.long y :: rest))) : W p l e R s m args below meth c H locs cells slots Q (F0 m pc ls (.long x :: rest)) := h ▸ k
theorem q_topR {x y : Nat} (h : y = x) (k : W p l e R s m args below meth c H locs cells slots Q (F0 m pc ls (.ref (adr g y) :: rest))) : W p l e R s m args below meth c H locs cells slots Q (F0 m pc ls (.ref (adr g x) :: rest)) := h ▸ k
theorem m_gI (X : CX g l p s m args meth c own cc nL) (hH : HR g M H) (hw : inC t) (hty : tyT a = t) (hf : fok t k 0 = true) (hlk : Cond.fieldLink own idx (clT t k).1 (clT t k).2.1 (clT t k).2.2.1 ∈ BIG) (hdg : decode cc pc = .ok (.getfield idx, 3))
    (kk : W p l e R s m args below meth c H locs cells slots Q (F0 m (pc + 3) ls (.int (mI M a k) :: rest))) : W p l e R s m args below meth c H locs cells slots Q (F0 m pc ls (.ref (adr g a) :: rest)) := by
  obtain ⟨h1, h2, h3, h4⟩ := fok_s hf
  exact m_getI X hH hw hty h1 h2 h3 h4 hlk hdg kk
theorem m_gJ (X : CX g l p s m args meth c own cc nL) (hH : HR g M H) (hw : inC t) (hty : tyT a = t) (hf : fok t k 1 = true) (hlk : Cond.fieldLink own idx (clT t k).1 (clT t k).2.1 (clT t k).2.2.1 ∈ BIG) (hdg : decode cc pc = .ok (.getfield idx, 3))
    (kk : W p l e R s m args below meth c H locs cells slots Q (F0 m (pc + 3) ls (.long (mJ M a k) :: rest))) : W p l e R s m args below meth c H locs cells slots Q (F0 m pc ls (.ref (adr g a) :: rest)) := by
  obtain ⟨h1, h2, h3, h4⟩ := fok_s hf
  exact m_getJ X hH hw hty h1 h2 h3 h4 hlk hdg kk
theorem m_gR (X : CX g l p s m args meth c own cc nL) (hH : HR g M H) (hw : inC t) (hty : tyT a = t) (hf : fok t k 2 = true) (hlk : Cond.fieldLink own idx (clT t k).1 (clT t k).2.1 (clT t k).2.2.1 ∈ BIG) (hdg : decode cc pc = .ok (.getfield idx, 3)) (t2 : Nat) (h2 : rt t k = t2)
    (kk : tyT (mR M a k) = t2 → W p l e R s m args below meth c H locs cells slots Q (F0 m (pc + 3) ls (.ref (adr g (mR M a k)) :: rest))) : W p l e R s m args below meth c H locs cells slots Q (F0 m pc ls (.ref (adr g a) :: rest)) := by
  obtain ⟨h1, h22, h3, h4⟩ := fok_s hf
  exact m_getR X hH hw hty h1 h22 h3 h4 hlk hdg h2 kk
theorem m_gQ (X : CX g l p s m args meth c own cc nL) (hH : HR g M H) (hw : inC t) (hty : tyT a = t) (hf : fok t k 3 = true) (hlk : Cond.fieldLink own idx (clT t k).1 (clT t k).2.1 (clT t k).2.2.1 ∈ BIG) (hdg : decode cc pc = .ok (.getfield idx, 3))
    (kk : 1 ≤ mR M a k ∧ mR M a k ≤ 11 → W p l e R s m args below meth c H locs cells slots Q (F0 m (pc + 3) ls (.ref (gV g (mR M a k - 1)) :: rest))) : W p l e R s m args below meth c H locs cells slots Q (F0 m pc ls (.ref (adr g a) :: rest)) := by
  obtain ⟨h1, h22, h3, h4⟩ := fok_s hf
  exact m_getQ X hH hw hty h1 h22 h3 h4 hlk hdg kk
theorem m_pI {x : Int32} {fy : FieldType} (X : CX g l p s m args meth c own cc nL) (hH : HR g M H) (hL : LK g s H locs) (ho : okC t) (hty : tyT a = t) (hf : pok t k 0 = true) (hfy : clY t k = fy) (hnr : narrow fy (.int x) = .int x) (hft : fits fy (.int x) = true)
    (hlk : Cond.fieldLink own idx (clT t k).1 (clT t k).2.1 (clT t k).2.2.1 ∈ BIG) (hdg : decode cc pc = .ok (.putfield idx, 3)) (eM : M2 = sI M a k x)
    (kk : ∀ H1 locs1, HR g M2 H1 → LK g s H1 locs1 → W p l e R s m args below meth c H1 locs1 cells slots Q (F0 m (pc + 3) ls rest)) : W p l e R s m args below meth c H locs cells slots Q (F0 m pc ls (.int x :: .ref (adr g a) :: rest)) := by
  obtain ⟨h1, h2, h3, h4, h5⟩ := pok_s hf
  subst eM
  exact m_putI X hH hL ho hty h1 h2 h3 h4 h5 hfy hnr hft hlk hdg kk
theorem m_pJ {x : Int64} (X : CX g l p s m args meth c own cc nL) (hH : HR g M H) (hL : LK g s H locs) (ho : okC t) (hty : tyT a = t) (hf : pok t k 1 = true) (hfy : clY t k = .long)
    (hlk : Cond.fieldLink own idx (clT t k).1 (clT t k).2.1 (clT t k).2.2.1 ∈ BIG) (hdg : decode cc pc = .ok (.putfield idx, 3)) (eM : M2 = sJ M a k x)
    (kk : ∀ H1 locs1, HR g M2 H1 → LK g s H1 locs1 → W p l e R s m args below meth c H1 locs1 cells slots Q (F0 m (pc + 3) ls rest)) : W p l e R s m args below meth c H locs cells slots Q (F0 m pc ls (.long x :: .ref (adr g a) :: rest)) := by
  obtain ⟨h1, h2, h3, h4, h5⟩ := pok_s hf
  subst eM
  exact m_putJ X hH hL ho hty h1 h2 h3 h4 h5 hfy hlk hdg kk
theorem m_pQ {i : Nat} {cn : String} (X : CX g l p s m args meth c own cc nL) (hH : HR g M H) (hL : LK g s H locs) (ho : okC t) (hty : tyT a = t) (hf : pok t k 3 = true) (hi : i < 11) (hfy : clY t k = .object cn)
    (hlk : Cond.fieldLink own idx (clT t k).1 (clT t k).2.1 (clT t k).2.2.1 ∈ BIG) (hdg : decode cc pc = .ok (.putfield idx, 3)) (eM : M2 = sR M a k (i + 1))
    (kk : ∀ H1 locs1, HR g M2 H1 → LK g s H1 locs1 → W p l e R s m args below meth c H1 locs1 cells slots Q (F0 m (pc + 3) ls rest)) : W p l e R s m args below meth c H locs cells slots Q (F0 m pc ls (.ref (gV g i) :: .ref (adr g a) :: rest)) := by
  obtain ⟨h1, h2, h3, h4, h5⟩ := pok_s hf
  subst eM
  exact m_putQ X hH hL ho hty h1 h2 h3 h4 h5 hi hfy hlk hdg kk
theorem m_is {i x : Int32} (X : CX g l p s m args meth c own cc nL) (hH : HR g M H) (hL : LK g s H locs) (hty : tyT a = t) (hc : isA t = true) (ht : ¬ t < 20) (hd : ∀ j, kd t j = 0) (he : eT t = .int) {n : Nat} (hn : alen t = n) (hin : inb i n = true) (hdg : decode cc pc = .ok (.iastore, 1)) (eM : M2 = sI M a i.toNatClampNeg x)
    (kk : ∀ H1 locs1, HR g M2 H1 → LK g s H1 locs1 → W p l e R s m args below meth c H1 locs1 cells slots Q (F0 m (pc + 1) ls rest)) : W p l e R s m args below meth c H locs cells slots Q (F0 m pc ls (.int x :: .int i :: .ref (adr g a) :: rest)) := by
  subst eM
  exact m_iast X hH hL hty hc ht hd he hn hin hdg kk
theorem m_cs {i x : Int32} (X : CX g l p s m args meth c own cc nL) (hH : HR g M H) (hL : LK g s H locs) (hty : tyT a = t) (hc : isA t = true) (ht : ¬ t < 20) (hd : ∀ j, kd t j = 0) (he : eT t = .char) {n : Nat} (hn : alen t = n) (hin : inb i n = true) (hdg : decode cc pc = .ok (.castore, 1)) (eM : M2 = sI M a i.toNatClampNeg (vp_nar .char x))
    (kk : ∀ H1 locs1, HR g M2 H1 → LK g s H1 locs1 → W p l e R s m args below meth c H1 locs1 cells slots Q (F0 m (pc + 1) ls rest)) : W p l e R s m args below meth c H locs cells slots Q (F0 m pc ls (.int x :: .int i :: .ref (adr g a) :: rest)) := by
  subst eM
  exact m_cast X hH hL hty hc ht hd he hn hin hdg kk
/-- an element of an array of references replaced by another object of its kind -/
theorem m_as {i : Int32} {b : Nat} (X : CX g l p s m args meth c own cc nL) (hH : HR g M H) (hL : LK g s H locs) (hty : tyT a = t) (hc : isA t = true) (ht : ¬ t < 20) (hd : ∀ j, kd t j = 2) {t2 : Nat} (hb2 : tyT b = t2) (hc2 : isC t2 = true) (ht2 : t2 < 20) (he : eT t = .object (clR t2)) (h2 : ∀ j, rt t j = t2) {n : Nat} (hn : alen t = n) (hin : inb i n = true) (hdg : decode cc pc = .ok (.aastore, 1)) (eM : M2 = sR M a i.toNatClampNeg b)
    (kk : ∀ H1 locs1, HR g M2 H1 → LK g s H1 locs1 → W p l e R s m args below meth c H1 locs1 cells slots Q (F0 m (pc + 1) ls rest)) : W p l e R s m args below meth c H locs cells slots Q (F0 m pc ls (.ref (adr g b) :: .int i :: .ref (adr g a) :: rest)) := by
  subst eM
  have hrc := my_recv X hH hb2 hc2 ht2
  obtain ⟨hx, hb, -, hown, hts, hK, -⟩ := X
  have hr := ty_ge hty (by rintro rfl; simp at ht)
  have hr2 := ty_ge hb2 (by rintro rfl; simp [isC] at hc2)
  have q := hH.1.arr hr.1 hr.2 hty ht
  have hin := inb_in hin
  subst hn
  have hlt : i.toNatClampNeg < alen t := Nat.not_le.mp fun q => hin (Or.inr q)
  have h0 : ¬ i < 0 := fun q => hin (Or.inl q)
  obtain ⟨cellV, g1, g3, g2⟩ := hrc
  have hcls := (hK.1 t2 hc2).2
  have hra := (hK.2.1 t hc).2
  rw [he] at hra
  obtain ⟨kA, comp, k1, k2, k3, -⟩ := hra
  have hcomp : comp = gC g t2 := Option.some.inj (k3.symm.trans hcls.1)
  subst hcomp
  obtain ⟨kC, hkC, -⟩ := hcls.2
  have hcv : cellV.cls = gC g t2 := Option.some.inj (g2.symm.trans hcls.1)
  refine W.aast hx hb q (fun q h => by cases h) (fun h => by cases h) k1 k2 rfl hkC ⟨h0, by rw [arrV_size]; exact hlt⟩ g1 (fun q h => by rw [h] at g3; cases g3) (by rw [hcv]; exact hkC) (by rw [hcv]; exact va_assign hcls) rfl rfl hdg fun H1 e1 z oq => ?_
  rw [arrV_store] at e1
  refine kk H1 _ ⟨m_arr hH.1 hty ht hr.1 e1 z oq (by rw [hd]; show vR g (mR _ a _) = _; rw [mR_sR, if_pos ⟨rfl, rfl⟩, vR_pos hr2.1]) (fun j hj => vV_sR_ne _ (fun h => hj h.2)) (fun b2 d j hb => vV_sR_ne _ (fun h => hb h.1)), fun b2 j h3 h4 h5 => ?_⟩ (hL.put z)
  by_cases zz : b2 = a ∧ j = i.toNatClampNeg
  · obtain ⟨rfl, rfl⟩ := zz
    rw [mR_sR, if_pos ⟨rfl, rfl⟩]
    exact ⟨fun _ => ⟨hr2.1, hr2.2, by rw [hty, hb2, h2]⟩, fun h6 => absurd h6 (by rw [hty, hd]; decide)⟩
  · rw [mR_sR, if_neg zz]
    exact hH.2 b2 j h3 h4 h5
theorem my_doneI {x : Int32} {aa : Array Value} (hL : LK g s H locs) (hr : vx_Run p l e R s m args below meth c H locs cells slots (mcO (.inl x : Int32 ⊕ String)) (msO (.inl x : Int32 ⊕ String)) (F0 m pc ls st) rest (QcO g rvI (.inl x) M1 aa) (XcO g (.inl x : Int32 ⊕ String) M1) (fun q => gN g ≤ q))
    (kk : ∀ H1 locs1, HR g M1 H1 → LK g s H1 locs1 → W p l e R s m args below meth c H1 locs1 cells slots Q (F0 m (pc + 3) ls (.int x :: rest))) : W p l e R s m args below meth c H locs cells slots Q (F0 m pc ls st) := my_done hL hr kk
theorem my_doneJ {x : Int64} {aa : Array Value} (hL : LK g s H locs) (hr : vx_Run p l e R s m args below meth c H locs cells slots (mcO (.inl x : Int64 ⊕ String)) (msO (.inl x : Int64 ⊕ String)) (F0 m pc ls st) rest (QcO g rvJ (.inl x) M1 aa) (XcO g (.inl x : Int64 ⊕ String) M1) (fun q => gN g ≤ q))
    (kk : ∀ H1 locs1, HR g M1 H1 → LK g s H1 locs1 → W p l e R s m args below meth c H1 locs1 cells slots Q (F0 m (pc + 3) ls (.long x :: rest))) : W p l e R s m args below meth c H locs cells slots Q (F0 m pc ls st) := my_done hL hr kk
theorem my_doneR {x : Nat} {aa : Array Value} (hL : LK g s H locs) (hr : vx_Run p l e R s m args below meth c H locs cells slots (mcO (.inl x : Nat ⊕ String)) (msO (.inl x : Nat ⊕ String)) (F0 m pc ls st) rest (QcO g (rvR g) (.inl x) M1 aa) (XcO g (.inl x : Nat ⊕ String) M1) (fun q => gN g ≤ q))
    (kk : ∀ H1 locs1, HR g M1 H1 → LK g s H1 locs1 → W p l e R s m args below meth c H1 locs1 cells slots Q (F0 m (pc + 3) ls (.ref (adr g x) :: rest))) : W p l e R s m args below meth c H locs cells slots Q (F0 m pc ls st) := my_done hL hr kk
theorem my_doneF {x : UInt32} {aa : Array Value} (hL : LK g s H locs) (hr : vx_Run p l e R s m args below meth c H locs cells slots (mcO (.inl x : UInt32 ⊕ String)) (msO (.inl x : UInt32 ⊕ String)) (F0 m pc ls st) rest (QcO g rvF (.inl x) M1 aa) (XcO g (.inl x : UInt32 ⊕ String) M1) (fun q => gN g ≤ q))
    (kk : ∀ H1 locs1, HR g M1 H1 → LK g s H1 locs1 → W p l e R s m args below meth c H1 locs1 cells slots Q (F0 m (pc + 3) ls (.float x :: rest))) : W p l e R s m args below meth c H locs cells slots Q (F0 m pc ls st) := my_done hL hr kk
theorem my_doneD {x : UInt64} {aa : Array Value} (hL : LK g s H locs) (hr : vx_Run p l e R s m args below meth c H locs cells slots (mcO (.inl x : UInt64 ⊕ String)) (msO (.inl x : UInt64 ⊕ String)) (F0 m pc ls st) rest (QcO g rvD (.inl x) M1 aa) (XcO g (.inl x : UInt64 ⊕ String) M1) (fun q => gN g ≤ q))
    (kk : ∀ H1 locs1, HR g M1 H1 → LK g s H1 locs1 → W p l e R s m args below meth c H1 locs1 cells slots Q (F0 m (pc + 3) ls (.double x :: rest))) : W p l e R s m args below meth c H locs cells slots Q (F0 m pc ls st) := my_done hL hr kk
theorem my_doneU {x : Unit} {aa : Array Value} (hL : LK g s H locs) (hr : vx_Run p l e R s m args below meth c H locs cells slots (mcO (.inl x : Unit ⊕ String)) (msO (.inl x : Unit ⊕ String)) (F0 m pc ls st) rest (QcO g rvU (.inl x) M1 aa) (XcO g (.inl x : Unit ⊕ String) M1) (fun q => gN g ≤ q))
    (kk : ∀ H1 locs1, HR g M1 H1 → LK g s H1 locs1 → W p l e R s m args below meth c H1 locs1 cells slots Q (F0 m (pc + 3) ls rest)) : W p l e R s m args below meth c H locs cells slots Q (F0 m pc ls st) := my_done hL hr kk
/-- the words of a throw -/
def okT (own : String) (ik ic is : Nat) (cls text : String) (names : List String) : Prop :=
  Bundle.fit cls = true ∧ (∀ n ∈ names, Bundle.fit n = true) ∧ Cond.classLink own ik cls ∈ BIG ∧ Cond.initialized cls ∈ BIG ∧ (own, is, text) ∈ STR ∧ (∀ w ∈ vx_atS own ic cls names, w ∈ BIG ∨ w ∈ FACE) ∧ (∀ w ∈ vx_atS own ic cls names, vx_ot w = true)
theorem my_sz {g : GP} {s : State} (X : CX g l p s m args meth c own cc nL) (hH : HR g M H) (hL : LK g s H locs) : va_S (fun q => gN g ≤ q) s.heap H locs :=
  ⟨hL.1, fun q _ hq => by rw [hH.1.1 q (Nat.lt_of_not_le hq), X.2.2.2.2.2.2.2.2 q (Nat.lt_of_not_le hq)], hL.2⟩
theorem my_zq {C nm d : String} (X : CX g l p s m args meth c own cc nL) (h : vx_Zq C nm d (fun q => gN g ≤ q) s (gH g)) : vx_Zq C nm d (fun q => gN g ≤ q) s s.heap := h.kept fun q h1 _ => X.2.2.2.2.2.2.2.2 q h1
theorem m_throw {τ : Type} {rv : τ → Option Value} {ik ic is : Nat} {cls text : String} {names : List String} (X : CX g l p s m args meth c own cc nL) (htb : ∀ x ∈ c.exceptionTable.toList, False) (hH : HR g M H) (hL : LK g s H locs) (hls : ls.size = nL) (hT : okT own ik ic is cls text names)
    (d0 : decode cc pc = .ok (.new ik, 3)) (d3 : decode cc (pc + 3) = .ok (.dup, 1)) (d4 : decode cc (pc + 4) = .ok (.ldc is, 2)) (d6 : decode cc (pc + 6) = .ok (.invokespecial ic, 3)) (d9 : decode cc (pc + 9) = .ok (.athrow, 1))
    (hR1 : names.length + 3 < fr) (hR2 : (rest.map fun v => v.category).sum + (13 * (names.length + 1) + 43) ≤ lo) :
    W p l e (rmO (.inr cls : τ ⊕ String) fr lo) s m args below meth c H locs 0 0 (MQO g below rv (.inr cls) M args s) (F0 m pc ls rest) := by
  obtain ⟨h1, h2, h3, h4, h5, h6, h7⟩ := hT
  have hts := X.2.2.2.2.1
  have hK := X.2.2.2.2.2.1
  obtain ⟨sa, hsa⟩ := hK.2.2.2.2.2 _ h5
  have hat : ∀ w ∈ vx_atS own ic cls names, w.before args s = true := fun w hw => (h6 w hw).elim (hts w) fun hf => face_any hf (hK.2.2.2.2.1 w hf)
  refine vx_throwS (A := fun q => gN g ≤ q) (names := names) (sa := sa) (mc := 1) (ms := 6) X.1 X.2.1 X.2.2.2.2.2.2.2.1 X.2.2.2.1 h1 h2 (hts _ h3) (hts _ h4) hsa hat (fun w hw => ?_) (my_zq X hK.2.2.1) (my_zq X hK.2.2.2.1) (my_sz X hH hL) (hls.trans X.2.2.1.symm) d0 d3 d4 d6 d9 (fun x hx => (htb x hx).elim) hR1 hR2 (Nat.le_refl _) (Nat.le_refl _) X.2.2.2.2.2.2.1 (fun t hA hz hq => ⟨rfl, ⟨⟨fun q hq1 => ?_, fun b hb1 hb2 => ?_, ?_⟩, hH.2⟩, ?_⟩) hL.2 (Nat.le_refl _) (Nat.le_refl _)
  · rcases List.mem_cons.mp hw with e1 | hw
    · rw [e1]; unfold vx_ot; rw [big_good h3]; simp
    · rcases List.mem_cons.mp hw with e1 | hw
      · rw [e1]; unfold vx_ot; rw [big_good h4]; simp
      · exact h7 w hw
  · rw [hq q (Nat.lt_of_lt_of_le hq1 (Nat.le_trans (Nat.le_add_right _ _) hH.1.2.2))]
    exact hH.1.1 q hq1
  · refine cell_kept (hq _ ?_) (fun _ _ => rfl) (hH.1.2.1 b hb1 hb2)
    have := hH.1.2.2
    unfold adr; omega
  · exact Nat.le_trans hH.1.2.2 hz
  · exact Nat.le_trans hL.1 hz
theorem m_throwW {τ : Type} {rv : τ → Option Value} {ik ic is : Nat} {cls text : String} {names : List String} (X : CX g l p s m args meth c own cc nL) (htb : ∀ x ∈ c.exceptionTable.toList, False) (hH : HR g M H) (hL : LK g s H locs) (hls : ls.size = nL) (hT : okT own ik ic is cls text names)
    (d0 : decode cc pc = .ok (.new ik, 3)) (d3 : decode cc (pc + 3) = .ok (.dup, 1)) (d4 : decode cc (pc + 4) = .ok (.ldc_w is, 3)) (d6 : decode cc (pc + 7) = .ok (.invokespecial ic, 3)) (d9 : decode cc (pc + 10) = .ok (.athrow, 1))
    (hR1 : names.length + 3 < fr) (hR2 : (rest.map fun v => v.category).sum + (13 * (names.length + 1) + 43) ≤ lo) :
    W p l e (rmO (.inr cls : τ ⊕ String) fr lo) s m args below meth c H locs 0 0 (MQO g below rv (.inr cls) M args s) (F0 m pc ls rest) := by
  obtain ⟨h1, h2, h3, h4, h5, h6, h7⟩ := hT
  have hts := X.2.2.2.2.1
  have hK := X.2.2.2.2.2.1
  obtain ⟨sa, hsa⟩ := hK.2.2.2.2.2 _ h5
  have hat : ∀ w ∈ vx_atS own ic cls names, w.before args s = true := fun w hw => (h6 w hw).elim (hts w) fun hf => face_any hf (hK.2.2.2.2.1 w hf)
  refine vx_throwSW (A := fun q => gN g ≤ q) (names := names) (sa := sa) (mc := 1) (ms := 6) X.1 X.2.1 X.2.2.2.2.2.2.2.1 X.2.2.2.1 h1 h2 (hts _ h3) (hts _ h4) hsa hat (fun w hw => ?_) (my_zq X hK.2.2.1) (my_zq X hK.2.2.2.1) (my_sz X hH hL) (hls.trans X.2.2.1.symm) d0 d3 d4 d6 d9 (fun x hx => (htb x hx).elim) hR1 hR2 (Nat.le_refl _) (Nat.le_refl _) X.2.2.2.2.2.2.1 (fun t hA hz hq => ⟨rfl, ⟨⟨fun q hq1 => ?_, fun b hb1 hb2 => ?_, ?_⟩, hH.2⟩, ?_⟩) hL.2 (Nat.le_refl _) (Nat.le_refl _)
  · rcases List.mem_cons.mp hw with e1 | hw
    · rw [e1]; unfold vx_ot; rw [big_good h3]; simp
    · rcases List.mem_cons.mp hw with e1 | hw
      · rw [e1]; unfold vx_ot; rw [big_good h4]; simp
      · exact h7 w hw
  · rw [hq q (Nat.lt_of_lt_of_le hq1 (Nat.le_trans (Nat.le_add_right _ _) hH.1.2.2))]
    exact hH.1.1 q hq1
  · refine cell_kept (hq _ ?_) (fun _ _ => rfl) (hH.1.2.1 b hb1 hb2)
    have := hH.1.2.2
    unfold adr; omega
  · exact Nat.le_trans hH.1.2.2 hz
  · exact Nat.le_trans hL.1 hz
end MYM
end
