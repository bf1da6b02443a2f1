section
-- ===== PART A: goes FIRST, ahead of the names: the tables' words, and 'selects' of the private methods out of them =====
/-- a private method of a class that the tables say can be made, by its rows of tables_1 -/
def lw_okq (q : MethodName × Nat) : Prop := (q.1.cls ≠ "java/lang/invoke/MethodHandle" ∧ q.1.cls ≠ "java/lang/invoke/VarHandle") ∧ Cond.instantiable q.1.cls q.2 ∈ tables_1 ∧ Cond.privateMethod q.1 ∈ tables_1 ∧ Cond.instanceMethod q.1 ∈ tables_1
theorem lw_p0 : lw_okq (⟨"java/util/ArrayList", "add", "(Ljava/lang/Object;[Ljava/lang/Object;I)V"⟩, 3) := ⟨⟨by decide +kernel, by decide +kernel⟩, List.mem_of_getElem? (i := 220) (by decide +kernel), List.mem_of_getElem? (i := 326) (by decide +kernel), List.mem_of_getElem? (i := 327) (by decide +kernel)⟩
theorem lw_p1 : lw_okq (⟨"java/util/ArrayList", "grow", "()[Ljava/lang/Object;"⟩, 3) := ⟨⟨by decide +kernel, by decide +kernel⟩, List.mem_of_getElem? (i := 220) (by decide +kernel), List.mem_of_getElem? (i := 330) (by decide +kernel), List.mem_of_getElem? (i := 331) (by decide +kernel)⟩
theorem lw_p2 : lw_okq (⟨"java/util/ArrayList", "grow", "(I)[Ljava/lang/Object;"⟩, 3) := ⟨⟨by decide +kernel, by decide +kernel⟩, List.mem_of_getElem? (i := 220) (by decide +kernel), List.mem_of_getElem? (i := 334) (by decide +kernel), List.mem_of_getElem? (i := 335) (by decide +kernel)⟩
theorem lw_p3 : lw_okq (⟨"SeriesVault", "makeDisk", "(II)V"⟩, 18) := ⟨⟨by decide +kernel, by decide +kernel⟩, List.mem_of_getElem? (i := 39) (by decide +kernel), List.mem_of_getElem? (i := 421) (by decide +kernel), List.mem_of_getElem? (i := 422) (by decide +kernel)⟩
theorem lw_p4 : lw_okq (⟨"java/lang/Throwable", "fillInStackTrace", "(I)Ljava/lang/Throwable;"⟩, 6) := ⟨⟨by decide +kernel, by decide +kernel⟩, List.mem_of_getElem? (i := 576) (by decide +kernel), List.mem_of_getElem? (i := 574) (by decide +kernel), List.mem_of_getElem? (i := 575) (by decide +kernel)⟩
theorem lw_p5 : lw_okq (⟨"SeriesVault", "putOnTape", "(I)V"⟩, 18) := ⟨⟨by decide +kernel, by decide +kernel⟩, List.mem_of_getElem? (i := 39) (by decide +kernel), List.mem_of_getElem? (i := 612) (by decide +kernel), List.mem_of_getElem? (i := 613) (by decide +kernel)⟩
theorem lw_p6 : lw_okq (⟨"SeriesVault", "checkPower", "()V"⟩, 18) := ⟨⟨by decide +kernel, by decide +kernel⟩, List.mem_of_getElem? (i := 39) (by decide +kernel), List.mem_of_getElem? (i := 654) (by decide +kernel), List.mem_of_getElem? (i := 655) (by decide +kernel)⟩
theorem lw_p7 : lw_okq (⟨"SeriesVault$SeriesReader", "readLabel", "([BII)I"⟩, 6) := ⟨⟨by decide +kernel, by decide +kernel⟩, List.mem_of_getElem? (i := 187) (by decide +kernel), List.mem_of_getElem? (i := 677) (by decide +kernel), List.mem_of_getElem? (i := 678) (by decide +kernel)⟩
theorem lw_p8 : lw_okq (⟨"SeriesVault$SeriesReader", "refuse", "(II)I"⟩, 6) := ⟨⟨by decide +kernel, by decide +kernel⟩, List.mem_of_getElem? (i := 187) (by decide +kernel), List.mem_of_getElem? (i := 688) (by decide +kernel), List.mem_of_getElem? (i := 689) (by decide +kernel)⟩
theorem lw_p9 : lw_okq (⟨"SeriesVault$SeriesReader", "isThereAlready", "([BII)Z"⟩, 6) := ⟨⟨by decide +kernel, by decide +kernel⟩, List.mem_of_getElem? (i := 187) (by decide +kernel), List.mem_of_getElem? (i := 692) (by decide +kernel), List.mem_of_getElem? (i := 693) (by decide +kernel)⟩
theorem lw_p10 : lw_okq (⟨"SeriesVault", "setFault", "(II)V"⟩, 18) := ⟨⟨by decide +kernel, by decide +kernel⟩, List.mem_of_getElem? (i := 39) (by decide +kernel), List.mem_of_getElem? (i := 699) (by decide +kernel), List.mem_of_getElem? (i := 700) (by decide +kernel)⟩
theorem lw_p11 : lw_okq (⟨"SeriesVault", "numberOf", "(LSeriesVault$Series;)I"⟩, 18) := ⟨⟨by decide +kernel, by decide +kernel⟩, List.mem_of_getElem? (i := 39) (by decide +kernel), List.mem_of_getElem? (i := 979) (by decide +kernel), List.mem_of_getElem? (i := 980) (by decide +kernel)⟩
theorem lw_p12 : lw_okq (⟨"SeriesVault", "addNewSeries", "(LSeriesVault$Series;)V"⟩, 18) := ⟨⟨by decide +kernel, by decide +kernel⟩, List.mem_of_getElem? (i := 39) (by decide +kernel), List.mem_of_getElem? (i := 987) (by decide +kernel), List.mem_of_getElem? (i := 988) (by decide +kernel)⟩
theorem lw_p13 : lw_okq (⟨"SeriesVault", "writeRecord", "(IIIJJ)V"⟩, 18) := ⟨⟨by decide +kernel, by decide +kernel⟩, List.mem_of_getElem? (i := 39) (by decide +kernel), List.mem_of_getElem? (i := 1003) (by decide +kernel), List.mem_of_getElem? (i := 1004) (by decide +kernel)⟩
theorem lw_p14 : lw_okq (⟨"SeriesVault", "writeJournalBlock", "()Z"⟩, 18) := ⟨⟨by decide +kernel, by decide +kernel⟩, List.mem_of_getElem? (i := 39) (by decide +kernel), List.mem_of_getElem? (i := 1008) (by decide +kernel), List.mem_of_getElem? (i := 1009) (by decide +kernel)⟩
theorem lw_p15 : lw_okq (⟨"SeriesVault", "writeBlock", "()V"⟩, 18) := ⟨⟨by decide +kernel, by decide +kernel⟩, List.mem_of_getElem? (i := 39) (by decide +kernel), List.mem_of_getElem? (i := 1012) (by decide +kernel), List.mem_of_getElem? (i := 1013) (by decide +kernel)⟩
def lw_privs_1 : List (MethodName × Nat) := [(⟨"java/util/ArrayList", "add", "(Ljava/lang/Object;[Ljava/lang/Object;I)V"⟩, 3), (⟨"java/util/ArrayList", "grow", "()[Ljava/lang/Object;"⟩, 3), (⟨"java/util/ArrayList", "grow", "(I)[Ljava/lang/Object;"⟩, 3), (⟨"SeriesVault", "makeDisk", "(II)V"⟩, 18), (⟨"java/lang/Throwable", "fillInStackTrace", "(I)Ljava/lang/Throwable;"⟩, 6), (⟨"SeriesVault", "putOnTape", "(I)V"⟩, 18), (⟨"SeriesVault", "checkPower", "()V"⟩, 18), (⟨"SeriesVault$SeriesReader", "readLabel", "([BII)I"⟩, 6), (⟨"SeriesVault$SeriesReader", "refuse", "(II)I"⟩, 6), (⟨"SeriesVault$SeriesReader", "isThereAlready", "([BII)Z"⟩, 6), (⟨"SeriesVault", "setFault", "(II)V"⟩, 18), (⟨"SeriesVault", "numberOf", "(LSeriesVault$Series;)I"⟩, 18), (⟨"SeriesVault", "addNewSeries", "(LSeriesVault$Series;)V"⟩, 18), (⟨"SeriesVault", "writeRecord", "(IIIJJ)V"⟩, 18), (⟨"SeriesVault", "writeJournalBlock", "()Z"⟩, 18), (⟨"SeriesVault", "writeBlock", "()V"⟩, 18)]
theorem lw_r1 : ∀ q ∈ lw_privs_1, lw_okq q := List.forall_mem_cons.mpr ⟨lw_p0, List.forall_mem_cons.mpr ⟨lw_p1, List.forall_mem_cons.mpr ⟨lw_p2, List.forall_mem_cons.mpr ⟨lw_p3, List.forall_mem_cons.mpr ⟨lw_p4, List.forall_mem_cons.mpr ⟨lw_p5, List.forall_mem_cons.mpr ⟨lw_p6, List.forall_mem_cons.mpr ⟨lw_p7, List.forall_mem_cons.mpr ⟨lw_p8, List.forall_mem_cons.mpr ⟨lw_p9, List.forall_mem_cons.mpr ⟨lw_p10, List.forall_mem_cons.mpr ⟨lw_p11, List.forall_mem_cons.mpr ⟨lw_p12, List.forall_mem_cons.mpr ⟨lw_p13, List.forall_mem_cons.mpr ⟨lw_p14, List.forall_mem_cons.mpr ⟨lw_p15, fun _ h => absurd h List.not_mem_nil⟩⟩⟩⟩⟩⟩⟩⟩⟩⟩⟩⟩⟩⟩⟩⟩
theorem lw_p16 : lw_okq (⟨"SeriesVault$Journal", "grow", "()V"⟩, 13) := ⟨⟨by decide +kernel, by decide +kernel⟩, List.mem_of_getElem? (i := 47) (by decide +kernel), List.mem_of_getElem? (i := 1028) (by decide +kernel), List.mem_of_getElem? (i := 1029) (by decide +kernel)⟩
theorem lw_p17 : lw_okq (⟨"SeriesVault", "checkSeries", "(I)V"⟩, 18) := ⟨⟨by decide +kernel, by decide +kernel⟩, List.mem_of_getElem? (i := 39) (by decide +kernel), List.mem_of_getElem? (i := 1083) (by decide +kernel), List.mem_of_getElem? (i := 1084) (by decide +kernel)⟩
theorem lw_p18 : lw_okq (⟨"SeriesVault", "mayCome", "(IJ)Z"⟩, 18) := ⟨⟨by decide +kernel, by decide +kernel⟩, List.mem_of_getElem? (i := 39) (by decide +kernel), List.mem_of_getElem? (i := 1098) (by decide +kernel), List.mem_of_getElem? (i := 1099) (by decide +kernel)⟩
theorem lw_p19 : lw_okq (⟨"SeriesVault", "addPoint", "(IJJ)V"⟩, 18) := ⟨⟨by decide +kernel, by decide +kernel⟩, List.mem_of_getElem? (i := 39) (by decide +kernel), List.mem_of_getElem? (i := 1106) (by decide +kernel), List.mem_of_getElem? (i := 1107) (by decide +kernel)⟩
theorem lw_p20 : lw_okq (⟨"SeriesVault", "comePoint", "(IJJ)V"⟩, 18) := ⟨⟨by decide +kernel, by decide +kernel⟩, List.mem_of_getElem? (i := 39) (by decide +kernel), List.mem_of_getElem? (i := 1110) (by decide +kernel), List.mem_of_getElem? (i := 1111) (by decide +kernel)⟩
theorem lw_p21 : lw_okq (⟨"SeriesVault$Points", "set", "(IIJJ)V"⟩, 4) := ⟨⟨by decide +kernel, by decide +kernel⟩, List.mem_of_getElem? (i := 105) (by decide +kernel), List.mem_of_getElem? (i := 1120) (by decide +kernel), List.mem_of_getElem? (i := 1121) (by decide +kernel)⟩
theorem lw_p22 : lw_okq (⟨"SeriesVault", "longOnTape", "(I)J"⟩, 18) := ⟨⟨by decide +kernel, by decide +kernel⟩, List.mem_of_getElem? (i := 39) (by decide +kernel), List.mem_of_getElem? (i := 1131) (by decide +kernel), List.mem_of_getElem? (i := 1132) (by decide +kernel)⟩
theorem lw_p23 : lw_okq (⟨"SeriesVault$Shelf", "countSeenOfOwner", "(LSeriesVault$Parcel;IJJ)I"⟩, 11) := ⟨⟨by decide +kernel, by decide +kernel⟩, List.mem_of_getElem? (i := 133) (by decide +kernel), List.mem_of_getElem? (i := 1146) (by decide +kernel), List.mem_of_getElem? (i := 1147) (by decide +kernel)⟩
theorem lw_p24 : lw_okq (⟨"SeriesVault$Shelf", "scarOf", "(IJ)I"⟩, 11) := ⟨⟨by decide +kernel, by decide +kernel⟩, List.mem_of_getElem? (i := 133) (by decide +kernel), List.mem_of_getElem? (i := 1154) (by decide +kernel), List.mem_of_getElem? (i := 1155) (by decide +kernel)⟩
theorem lw_p25 : lw_okq (⟨"SeriesVault$Points", "isWithin", "(IIJJ)Z"⟩, 4) := ⟨⟨by decide +kernel, by decide +kernel⟩, List.mem_of_getElem? (i := 105) (by decide +kernel), List.mem_of_getElem? (i := 1162) (by decide +kernel), List.mem_of_getElem? (i := 1163) (by decide +kernel)⟩
theorem lw_p26 : lw_okq (⟨"SeriesVault", "letGo", "(IJJ)V"⟩, 18) := ⟨⟨by decide +kernel, by decide +kernel⟩, List.mem_of_getElem? (i := 39) (by decide +kernel), List.mem_of_getElem? (i := 1166) (by decide +kernel), List.mem_of_getElem? (i := 1167) (by decide +kernel)⟩
theorem lw_p27 : lw_okq (⟨"SeriesVault", "packed", "(LSeriesVault$Points;)LSeriesVault$Parcel;"⟩, 18) := ⟨⟨by decide +kernel, by decide +kernel⟩, List.mem_of_getElem? (i := 39) (by decide +kernel), List.mem_of_getElem? (i := 1198) (by decide +kernel), List.mem_of_getElem? (i := 1199) (by decide +kernel)⟩
theorem lw_p28 : lw_okq (⟨"SeriesVault", "catalogBlocks", "()I"⟩, 18) := ⟨⟨by decide +kernel, by decide +kernel⟩, List.mem_of_getElem? (i := 39) (by decide +kernel), List.mem_of_getElem? (i := 1284) (by decide +kernel), List.mem_of_getElem? (i := 1285) (by decide +kernel)⟩
theorem lw_p29 : lw_okq (⟨"SeriesVault", "freeBlocks", "()I"⟩, 18) := ⟨⟨by decide +kernel, by decide +kernel⟩, List.mem_of_getElem? (i := 39) (by decide +kernel), List.mem_of_getElem? (i := 1291) (by decide +kernel), List.mem_of_getElem? (i := 1292) (by decide +kernel)⟩
theorem lw_p30 : lw_okq (⟨"SeriesVault", "writeBlocks", "(I)V"⟩, 18) := ⟨⟨by decide +kernel, by decide +kernel⟩, List.mem_of_getElem? (i := 39) (by decide +kernel), List.mem_of_getElem? (i := 1299) (by decide +kernel), List.mem_of_getElem? (i := 1300) (by decide +kernel)⟩
theorem lw_p31 : lw_okq (⟨"SeriesVault", "keepManifest", "()V"⟩, 18) := ⟨⟨by decide +kernel, by decide +kernel⟩, List.mem_of_getElem? (i := 39) (by decide +kernel), List.mem_of_getElem? (i := 1333) (by decide +kernel), List.mem_of_getElem? (i := 1334) (by decide +kernel)⟩
def lw_privs_2 : List (MethodName × Nat) := [(⟨"SeriesVault$Journal", "grow", "()V"⟩, 13), (⟨"SeriesVault", "checkSeries", "(I)V"⟩, 18), (⟨"SeriesVault", "mayCome", "(IJ)Z"⟩, 18), (⟨"SeriesVault", "addPoint", "(IJJ)V"⟩, 18), (⟨"SeriesVault", "comePoint", "(IJJ)V"⟩, 18), (⟨"SeriesVault$Points", "set", "(IIJJ)V"⟩, 4), (⟨"SeriesVault", "longOnTape", "(I)J"⟩, 18), (⟨"SeriesVault$Shelf", "countSeenOfOwner", "(LSeriesVault$Parcel;IJJ)I"⟩, 11), (⟨"SeriesVault$Shelf", "scarOf", "(IJ)I"⟩, 11), (⟨"SeriesVault$Points", "isWithin", "(IIJJ)Z"⟩, 4), (⟨"SeriesVault", "letGo", "(IJJ)V"⟩, 18), (⟨"SeriesVault", "packed", "(LSeriesVault$Points;)LSeriesVault$Parcel;"⟩, 18), (⟨"SeriesVault", "catalogBlocks", "()I"⟩, 18), (⟨"SeriesVault", "freeBlocks", "()I"⟩, 18), (⟨"SeriesVault", "writeBlocks", "(I)V"⟩, 18), (⟨"SeriesVault", "keepManifest", "()V"⟩, 18)]
theorem lw_r2 : ∀ q ∈ lw_privs_2, lw_okq q := List.forall_mem_cons.mpr ⟨lw_p16, List.forall_mem_cons.mpr ⟨lw_p17, List.forall_mem_cons.mpr ⟨lw_p18, List.forall_mem_cons.mpr ⟨lw_p19, List.forall_mem_cons.mpr ⟨lw_p20, List.forall_mem_cons.mpr ⟨lw_p21, List.forall_mem_cons.mpr ⟨lw_p22, List.forall_mem_cons.mpr ⟨lw_p23, List.forall_mem_cons.mpr ⟨lw_p24, List.forall_mem_cons.mpr ⟨lw_p25, List.forall_mem_cons.mpr ⟨lw_p26, List.forall_mem_cons.mpr ⟨lw_p27, List.forall_mem_cons.mpr ⟨lw_p28, List.forall_mem_cons.mpr ⟨lw_p29, List.forall_mem_cons.mpr ⟨lw_p30, List.forall_mem_cons.mpr ⟨lw_p31, fun _ h => absurd h List.not_mem_nil⟩⟩⟩⟩⟩⟩⟩⟩⟩⟩⟩⟩⟩⟩⟩⟩
theorem lw_p32 : lw_okq (⟨"SeriesVault$Shelf", "countPointsOfScars", "(LSeriesVault$Parcel;)V"⟩, 11) := ⟨⟨by decide +kernel, by decide +kernel⟩, List.mem_of_getElem? (i := 133) (by decide +kernel), List.mem_of_getElem? (i := 1344) (by decide +kernel), List.mem_of_getElem? (i := 1345) (by decide +kernel)⟩
theorem lw_p33 : lw_okq (⟨"SeriesVault$Shelf", "countSeenIn", "(LSeriesVault$Parcel;J)I"⟩, 11) := ⟨⟨by decide +kernel, by decide +kernel⟩, List.mem_of_getElem? (i := 133) (by decide +kernel), List.mem_of_getElem? (i := 1359) (by decide +kernel), List.mem_of_getElem? (i := 1360) (by decide +kernel)⟩
theorem lw_p34 : lw_okq (⟨"SeriesVault$Question", "advance", "()V"⟩, 9) := ⟨⟨by decide +kernel, by decide +kernel⟩, List.mem_of_getElem? (i := 214) (by decide +kernel), List.mem_of_getElem? (i := 1390) (by decide +kernel), List.mem_of_getElem? (i := 1391) (by decide +kernel)⟩
theorem lw_p35 : lw_okq (⟨"SeriesVault$Question", "readNumber", "()I"⟩, 9) := ⟨⟨by decide +kernel, by decide +kernel⟩, List.mem_of_getElem? (i := 214) (by decide +kernel), List.mem_of_getElem? (i := 1397) (by decide +kernel), List.mem_of_getElem? (i := 1398) (by decide +kernel)⟩
theorem lw_p36 : lw_okq (⟨"SeriesVault$Question", "readName", "()I"⟩, 9) := ⟨⟨by decide +kernel, by decide +kernel⟩, List.mem_of_getElem? (i := 214) (by decide +kernel), List.mem_of_getElem? (i := 1406) (by decide +kernel), List.mem_of_getElem? (i := 1407) (by decide +kernel)⟩
theorem lw_p37 : lw_okq (⟨"SeriesVault$Question", "readText", "()I"⟩, 9) := ⟨⟨by decide +kernel, by decide +kernel⟩, List.mem_of_getElem? (i := 214) (by decide +kernel), List.mem_of_getElem? (i := 1410) (by decide +kernel), List.mem_of_getElem? (i := 1411) (by decide +kernel)⟩
theorem lw_p38 : lw_okq (⟨"SeriesVault$Question", "signOf", "(I)I"⟩, 9) := ⟨⟨by decide +kernel, by decide +kernel⟩, List.mem_of_getElem? (i := 214) (by decide +kernel), List.mem_of_getElem? (i := 1414) (by decide +kernel), List.mem_of_getElem? (i := 1415) (by decide +kernel)⟩
theorem lw_p39 : lw_okq (⟨"SeriesVault$Question", "nextIs", "(I)Z"⟩, 9) := ⟨⟨by decide +kernel, by decide +kernel⟩, List.mem_of_getElem? (i := 214) (by decide +kernel), List.mem_of_getElem? (i := 1418) (by decide +kernel), List.mem_of_getElem? (i := 1419) (by decide +kernel)⟩
theorem lw_p40 : lw_okq (⟨"SeriesVault$Question", "longer", "(I)I"⟩, 9) := ⟨⟨by decide +kernel, by decide +kernel⟩, List.mem_of_getElem? (i := 214) (by decide +kernel), List.mem_of_getElem? (i := 1422) (by decide +kernel), List.mem_of_getElem? (i := 1423) (by decide +kernel)⟩
theorem lw_p41 : lw_okq (⟨"SeriesVault$Question", "refuse", "(II)Z"⟩, 9) := ⟨⟨by decide +kernel, by decide +kernel⟩, List.mem_of_getElem? (i := 214) (by decide +kernel), List.mem_of_getElem? (i := 1426) (by decide +kernel), List.mem_of_getElem? (i := 1427) (by decide +kernel)⟩
theorem lw_p42 : lw_okq (⟨"SeriesVault$Question", "readExp", "(I)Z"⟩, 9) := ⟨⟨by decide +kernel, by decide +kernel⟩, List.mem_of_getElem? (i := 214) (by decide +kernel), List.mem_of_getElem? (i := 1430) (by decide +kernel), List.mem_of_getElem? (i := 1431) (by decide +kernel)⟩
theorem lw_p43 : lw_okq (⟨"SeriesVault$Question", "readTerm", "(I)Z"⟩, 9) := ⟨⟨by decide +kernel, by decide +kernel⟩, List.mem_of_getElem? (i := 214) (by decide +kernel), List.mem_of_getElem? (i := 1434) (by decide +kernel), List.mem_of_getElem? (i := 1435) (by decide +kernel)⟩
theorem lw_p44 : lw_okq (⟨"SeriesVault$Question", "readFactor", "(I)Z"⟩, 9) := ⟨⟨by decide +kernel, by decide +kernel⟩, List.mem_of_getElem? (i := 214) (by decide +kernel), List.mem_of_getElem? (i := 1438) (by decide +kernel), List.mem_of_getElem? (i := 1439) (by decide +kernel)⟩
theorem lw_p45 : lw_okq (⟨"SeriesVault$Question", "readFunc", "()Z"⟩, 9) := ⟨⟨by decide +kernel, by decide +kernel⟩, List.mem_of_getElem? (i := 214) (by decide +kernel), List.mem_of_getElem? (i := 1482) (by decide +kernel), List.mem_of_getElem? (i := 1483) (by decide +kernel)⟩
theorem lw_p46 : lw_okq (⟨"SeriesVault$Question", "tokenWord", "()LSeriesVault$Word;"⟩, 9) := ⟨⟨by decide +kernel, by decide +kernel⟩, List.mem_of_getElem? (i := 214) (by decide +kernel), List.mem_of_getElem? (i := 1486) (by decide +kernel), List.mem_of_getElem? (i := 1487) (by decide +kernel)⟩
theorem lw_p47 : lw_okq (⟨"SeriesVault$Question", "take", "(I)Z"⟩, 9) := ⟨⟨by decide +kernel, by decide +kernel⟩, List.mem_of_getElem? (i := 214) (by decide +kernel), List.mem_of_getElem? (i := 1530) (by decide +kernel), List.mem_of_getElem? (i := 1531) (by decide +kernel)⟩
def lw_privs_3 : List (MethodName × Nat) := [(⟨"SeriesVault$Shelf", "countPointsOfScars", "(LSeriesVault$Parcel;)V"⟩, 11), (⟨"SeriesVault$Shelf", "countSeenIn", "(LSeriesVault$Parcel;J)I"⟩, 11), (⟨"SeriesVault$Question", "advance", "()V"⟩, 9), (⟨"SeriesVault$Question", "readNumber", "()I"⟩, 9), (⟨"SeriesVault$Question", "readName", "()I"⟩, 9), (⟨"SeriesVault$Question", "readText", "()I"⟩, 9), (⟨"SeriesVault$Question", "signOf", "(I)I"⟩, 9), (⟨"SeriesVault$Question", "nextIs", "(I)Z"⟩, 9), (⟨"SeriesVault$Question", "longer", "(I)I"⟩, 9), (⟨"SeriesVault$Question", "refuse", "(II)Z"⟩, 9), (⟨"SeriesVault$Question", "readExp", "(I)Z"⟩, 9), (⟨"SeriesVault$Question", "readTerm", "(I)Z"⟩, 9), (⟨"SeriesVault$Question", "readFactor", "(I)Z"⟩, 9), (⟨"SeriesVault$Question", "readFunc", "()Z"⟩, 9), (⟨"SeriesVault$Question", "tokenWord", "()LSeriesVault$Word;"⟩, 9), (⟨"SeriesVault$Question", "take", "(I)Z"⟩, 9)]
theorem lw_r3 : ∀ q ∈ lw_privs_3, lw_okq q := List.forall_mem_cons.mpr ⟨lw_p32, List.forall_mem_cons.mpr ⟨lw_p33, List.forall_mem_cons.mpr ⟨lw_p34, List.forall_mem_cons.mpr ⟨lw_p35, List.forall_mem_cons.mpr ⟨lw_p36, List.forall_mem_cons.mpr ⟨lw_p37, List.forall_mem_cons.mpr ⟨lw_p38, List.forall_mem_cons.mpr ⟨lw_p39, List.forall_mem_cons.mpr ⟨lw_p40, List.forall_mem_cons.mpr ⟨lw_p41, List.forall_mem_cons.mpr ⟨lw_p42, List.forall_mem_cons.mpr ⟨lw_p43, List.forall_mem_cons.mpr ⟨lw_p44, List.forall_mem_cons.mpr ⟨lw_p45, List.forall_mem_cons.mpr ⟨lw_p46, List.forall_mem_cons.mpr ⟨lw_p47, fun _ h => absurd h List.not_mem_nil⟩⟩⟩⟩⟩⟩⟩⟩⟩⟩⟩⟩⟩⟩⟩⟩
theorem lw_p48 : lw_okq (⟨"SeriesVault$Question", "readNames", "(LSeriesVault$Step;)Z"⟩, 9) := ⟨⟨by decide +kernel, by decide +kernel⟩, List.mem_of_getElem? (i := 214) (by decide +kernel), List.mem_of_getElem? (i := 1534) (by decide +kernel), List.mem_of_getElem? (i := 1535) (by decide +kernel)⟩
theorem lw_p49 : lw_okq (⟨"SeriesVault$Question", "readMatches", "(LSeriesVault$Step;)Z"⟩, 9) := ⟨⟨by decide +kernel, by decide +kernel⟩, List.mem_of_getElem? (i := 214) (by decide +kernel), List.mem_of_getElem? (i := 1547) (by decide +kernel), List.mem_of_getElem? (i := 1548) (by decide +kernel)⟩
theorem lw_p50 : lw_okq (⟨"SeriesVault$Question", "readOpened", "(I)Z"⟩, 9) := ⟨⟨by decide +kernel, by decide +kernel⟩, List.mem_of_getElem? (i := 214) (by decide +kernel), List.mem_of_getElem? (i := 1564) (by decide +kernel), List.mem_of_getElem? (i := 1565) (by decide +kernel)⟩
theorem lw_p51 : lw_okq (⟨"SeriesVault$Answers", "push", "()LSeriesVault$Table;"⟩, 10) := ⟨⟨by decide +kernel, by decide +kernel⟩, List.mem_of_getElem? (i := 277) (by decide +kernel), List.mem_of_getElem? (i := 1577) (by decide +kernel), List.mem_of_getElem? (i := 1578) (by decide +kernel)⟩
theorem lw_p52 : lw_okq (⟨"SeriesVault$Answers", "pick", "(LSeriesVault$Step;LSeriesVault$Table;[LSeriesVault$Series;LSeriesVault$Shelf;LSeriesVault$Points;)V"⟩, 10) := ⟨⟨by decide +kernel, by decide +kernel⟩, List.mem_of_getElem? (i := 277) (by decide +kernel), List.mem_of_getElem? (i := 1625) (by decide +kernel), List.mem_of_getElem? (i := 1626) (by decide +kernel)⟩
theorem lw_p53 : lw_okq (⟨"SeriesVault$Table", "placeOf", "(LSeriesVault$Series;)I"⟩, 7) := ⟨⟨by decide +kernel, by decide +kernel⟩, List.mem_of_getElem? (i := 285) (by decide +kernel), List.mem_of_getElem? (i := 1654) (by decide +kernel), List.mem_of_getElem? (i := 1655) (by decide +kernel)⟩
theorem lw_p54 : lw_okq (⟨"SeriesVault$Table", "compareTexts", "(LSeriesVault$Series;LSeriesVault$Series;)I"⟩, 7) := ⟨⟨by decide +kernel, by decide +kernel⟩, List.mem_of_getElem? (i := 285) (by decide +kernel), List.mem_of_getElem? (i := 1658) (by decide +kernel), List.mem_of_getElem? (i := 1659) (by decide +kernel)⟩
theorem lw_p55 : lw_okq (⟨"SeriesVault$Answers", "makeBestRoom", "(I)V"⟩, 10) := ⟨⟨by decide +kernel, by decide +kernel⟩, List.mem_of_getElem? (i := 277) (by decide +kernel), List.mem_of_getElem? (i := 1669) (by decide +kernel), List.mem_of_getElem? (i := 1670) (by decide +kernel)⟩
theorem lw_p56 : lw_okq (⟨"SeriesVault$Answers", "meetPoints", "(ILSeriesVault$Table;LSeriesVault$Shelf;LSeriesVault$Points;)V"⟩, 10) := ⟨⟨by decide +kernel, by decide +kernel⟩, List.mem_of_getElem? (i := 277) (by decide +kernel), List.mem_of_getElem? (i := 1674) (by decide +kernel), List.mem_of_getElem? (i := 1675) (by decide +kernel)⟩
theorem lw_p57 : lw_okq (⟨"SeriesVault$Answers", "meet", "(ILSeriesVault$Table;IJJ)V"⟩, 10) := ⟨⟨by decide +kernel, by decide +kernel⟩, List.mem_of_getElem? (i := 277) (by decide +kernel), List.mem_of_getElem? (i := 1679) (by decide +kernel), List.mem_of_getElem? (i := 1680) (by decide +kernel)⟩
theorem lw_p58 : lw_okq (⟨"SeriesVault$Answers", "windowOf", "(J)I"⟩, 10) := ⟨⟨by decide +kernel, by decide +kernel⟩, List.mem_of_getElem? (i := 277) (by decide +kernel), List.mem_of_getElem? (i := 1683) (by decide +kernel), List.mem_of_getElem? (i := 1684) (by decide +kernel)⟩
theorem lw_p59 : lw_okq (⟨"SeriesVault$Answers", "grow", "(LSeriesVault$Table;IIIJ)V"⟩, 10) := ⟨⟨by decide +kernel, by decide +kernel⟩, List.mem_of_getElem? (i := 277) (by decide +kernel), List.mem_of_getElem? (i := 1687) (by decide +kernel), List.mem_of_getElem? (i := 1688) (by decide +kernel)⟩
theorem lw_p60 : lw_okq (⟨"SeriesVault$Answers", "choose", "(ILSeriesVault$Table;IIIJJ)V"⟩, 10) := ⟨⟨by decide +kernel, by decide +kernel⟩, List.mem_of_getElem? (i := 277) (by decide +kernel), List.mem_of_getElem? (i := 1696) (by decide +kernel), List.mem_of_getElem? (i := 1697) (by decide +kernel)⟩
theorem lw_p61 : lw_okq (⟨"SeriesVault$Table", "moveRow", "(II)V"⟩, 7) := ⟨⟨by decide +kernel, by decide +kernel⟩, List.mem_of_getElem? (i := 285) (by decide +kernel), List.mem_of_getElem? (i := 1713) (by decide +kernel), List.mem_of_getElem? (i := 1714) (by decide +kernel)⟩
theorem lw_p62 : lw_okq (⟨"SeriesVault$Answers", "join", "(I)Z"⟩, 10) := ⟨⟨by decide +kernel, by decide +kernel⟩, List.mem_of_getElem? (i := 277) (by decide +kernel), List.mem_of_getElem? (i := 1722) (by decide +kernel), List.mem_of_getElem? (i := 1723) (by decide +kernel)⟩
theorem lw_p63 : lw_okq (⟨"SeriesVault$Table", "joinRow", "(ILSeriesVault$Table;ILSeriesVault$Table;II)V"⟩, 7) := ⟨⟨by decide +kernel, by decide +kernel⟩, List.mem_of_getElem? (i := 285) (by decide +kernel), List.mem_of_getElem? (i := 1735) (by decide +kernel), List.mem_of_getElem? (i := 1736) (by decide +kernel)⟩
def lw_privs_4 : List (MethodName × Nat) := [(⟨"SeriesVault$Question", "readNames", "(LSeriesVault$Step;)Z"⟩, 9), (⟨"SeriesVault$Question", "readMatches", "(LSeriesVault$Step;)Z"⟩, 9), (⟨"SeriesVault$Question", "readOpened", "(I)Z"⟩, 9), (⟨"SeriesVault$Answers", "push", "()LSeriesVault$Table;"⟩, 10), (⟨"SeriesVault$Answers", "pick", "(LSeriesVault$Step;LSeriesVault$Table;[LSeriesVault$Series;LSeriesVault$Shelf;LSeriesVault$Points;)V"⟩, 10), (⟨"SeriesVault$Table", "placeOf", "(LSeriesVault$Series;)I"⟩, 7), (⟨"SeriesVault$Table", "compareTexts", "(LSeriesVault$Series;LSeriesVault$Series;)I"⟩, 7), (⟨"SeriesVault$Answers", "makeBestRoom", "(I)V"⟩, 10), (⟨"SeriesVault$Answers", "meetPoints", "(ILSeriesVault$Table;LSeriesVault$Shelf;LSeriesVault$Points;)V"⟩, 10), (⟨"SeriesVault$Answers", "meet", "(ILSeriesVault$Table;IJJ)V"⟩, 10), (⟨"SeriesVault$Answers", "windowOf", "(J)I"⟩, 10), (⟨"SeriesVault$Answers", "grow", "(LSeriesVault$Table;IIIJ)V"⟩, 10), (⟨"SeriesVault$Answers", "choose", "(ILSeriesVault$Table;IIIJJ)V"⟩, 10), (⟨"SeriesVault$Table", "moveRow", "(II)V"⟩, 7), (⟨"SeriesVault$Answers", "join", "(I)Z"⟩, 10), (⟨"SeriesVault$Table", "joinRow", "(ILSeriesVault$Table;ILSeriesVault$Table;II)V"⟩, 7)]
theorem lw_r4 : ∀ q ∈ lw_privs_4, lw_okq q := List.forall_mem_cons.mpr ⟨lw_p48, List.forall_mem_cons.mpr ⟨lw_p49, List.forall_mem_cons.mpr ⟨lw_p50, List.forall_mem_cons.mpr ⟨lw_p51, List.forall_mem_cons.mpr ⟨lw_p52, List.forall_mem_cons.mpr ⟨lw_p53, List.forall_mem_cons.mpr ⟨lw_p54, List.forall_mem_cons.mpr ⟨lw_p55, List.forall_mem_cons.mpr ⟨lw_p56, List.forall_mem_cons.mpr ⟨lw_p57, List.forall_mem_cons.mpr ⟨lw_p58, List.forall_mem_cons.mpr ⟨lw_p59, List.forall_mem_cons.mpr ⟨lw_p60, List.forall_mem_cons.mpr ⟨lw_p61, List.forall_mem_cons.mpr ⟨lw_p62, List.forall_mem_cons.mpr ⟨lw_p63, fun _ h => absurd h List.not_mem_nil⟩⟩⟩⟩⟩⟩⟩⟩⟩⟩⟩⟩⟩⟩⟩⟩
theorem lw_p64 : lw_okq (⟨"SeriesVault", "checkRow", "(I)V"⟩, 18) := ⟨⟨by decide +kernel, by decide +kernel⟩, List.mem_of_getElem? (i := 39) (by decide +kernel), List.mem_of_getElem? (i := 1759) (by decide +kernel), List.mem_of_getElem? (i := 1760) (by decide +kernel)⟩
theorem lw_p65 : lw_okq (⟨"SeriesVault", "checkCell", "(II)V"⟩, 18) := ⟨⟨by decide +kernel, by decide +kernel⟩, List.mem_of_getElem? (i := 39) (by decide +kernel), List.mem_of_getElem? (i := 1774) (by decide +kernel), List.mem_of_getElem? (i := 1775) (by decide +kernel)⟩
theorem lw_p66 : lw_okq (⟨"SeriesVault", "doAgain", "(I)V"⟩, 18) := ⟨⟨by decide +kernel, by decide +kernel⟩, List.mem_of_getElem? (i := 39) (by decide +kernel), List.mem_of_getElem? (i := 1841) (by decide +kernel), List.mem_of_getElem? (i := 1842) (by decide +kernel)⟩
theorem lw_p67 : lw_okq (⟨"SeriesVaultModel", "readLabels", "()Z"⟩, 79) := ⟨⟨by decide +kernel, by decide +kernel⟩, List.mem_of_getElem? (i := 1845) (by decide +kernel), List.mem_of_getElem? (i := 2117) (by decide +kernel), List.mem_of_getElem? (i := 2118) (by decide +kernel)⟩
theorem lw_p68 : lw_okq (⟨"SeriesVaultModel", "wordLength", "(I)I"⟩, 79) := ⟨⟨by decide +kernel, by decide +kernel⟩, List.mem_of_getElem? (i := 1845) (by decide +kernel), List.mem_of_getElem? (i := 2121) (by decide +kernel), List.mem_of_getElem? (i := 2122) (by decide +kernel)⟩
theorem lw_p69 : lw_okq (⟨"SeriesVaultModel", "flaw", "(II)Z"⟩, 79) := ⟨⟨by decide +kernel, by decide +kernel⟩, List.mem_of_getElem? (i := 1845) (by decide +kernel), List.mem_of_getElem? (i := 2128) (by decide +kernel), List.mem_of_getElem? (i := 2129) (by decide +kernel)⟩
theorem lw_p70 : lw_okq (⟨"SeriesVaultModel", "compare", "(IIII)I"⟩, 79) := ⟨⟨by decide +kernel, by decide +kernel⟩, List.mem_of_getElem? (i := 1845) (by decide +kernel), List.mem_of_getElem? (i := 2132) (by decide +kernel), List.mem_of_getElem? (i := 2133) (by decide +kernel)⟩
theorem lw_p71 : lw_okq (⟨"SeriesVaultModel", "layText", "()I"⟩, 79) := ⟨⟨by decide +kernel, by decide +kernel⟩, List.mem_of_getElem? (i := 1845) (by decide +kernel), List.mem_of_getElem? (i := 2136) (by decide +kernel), List.mem_of_getElem? (i := 2137) (by decide +kernel)⟩
theorem lw_p72 : lw_okq (⟨"SeriesVaultModel", "find", "(I)I"⟩, 79) := ⟨⟨by decide +kernel, by decide +kernel⟩, List.mem_of_getElem? (i := 1845) (by decide +kernel), List.mem_of_getElem? (i := 2140) (by decide +kernel), List.mem_of_getElem? (i := 2141) (by decide +kernel)⟩
theorem lw_p73 : lw_okq (⟨"SeriesVaultModel", "hasRoom", "(I)Z"⟩, 79) := ⟨⟨by decide +kernel, by decide +kernel⟩, List.mem_of_getElem? (i := 1845) (by decide +kernel), List.mem_of_getElem? (i := 2147) (by decide +kernel), List.mem_of_getElem? (i := 2148) (by decide +kernel)⟩
theorem lw_p74 : lw_okq (⟨"SeriesVaultModel", "record", "(IIJJI)Z"⟩, 79) := ⟨⟨by decide +kernel, by decide +kernel⟩, List.mem_of_getElem? (i := 1845) (by decide +kernel), List.mem_of_getElem? (i := 2151) (by decide +kernel), List.mem_of_getElem? (i := 2152) (by decide +kernel)⟩
theorem lw_p75 : lw_okq (⟨"SeriesVaultModel", "synced", "()Z"⟩, 79) := ⟨⟨by decide +kernel, by decide +kernel⟩, List.mem_of_getElem? (i := 1845) (by decide +kernel), List.mem_of_getElem? (i := 2155) (by decide +kernel), List.mem_of_getElem? (i := 2156) (by decide +kernel)⟩
theorem lw_p76 : lw_okq (⟨"SeriesVaultModel", "write", "()Z"⟩, 79) := ⟨⟨by decide +kernel, by decide +kernel⟩, List.mem_of_getElem? (i := 1845) (by decide +kernel), List.mem_of_getElem? (i := 2159) (by decide +kernel), List.mem_of_getElem? (i := 2160) (by decide +kernel)⟩
theorem lw_p77 : lw_okq (⟨"SeriesVaultModel", "newSeries", "(II)V"⟩, 79) := ⟨⟨by decide +kernel, by decide +kernel⟩, List.mem_of_getElem? (i := 1845) (by decide +kernel), List.mem_of_getElem? (i := 2163) (by decide +kernel), List.mem_of_getElem? (i := 2164) (by decide +kernel)⟩
theorem lw_p78 : lw_okq (⟨"SeriesVaultModel", "seriesFault", "(I)I"⟩, 79) := ⟨⟨by decide +kernel, by decide +kernel⟩, List.mem_of_getElem? (i := 1845) (by decide +kernel), List.mem_of_getElem? (i := 2172) (by decide +kernel), List.mem_of_getElem? (i := 2173) (by decide +kernel)⟩
theorem lw_p79 : lw_okq (⟨"SeriesVaultModel", "why", "(IJ)I"⟩, 79) := ⟨⟨by decide +kernel, by decide +kernel⟩, List.mem_of_getElem? (i := 1845) (by decide +kernel), List.mem_of_getElem? (i := 2184) (by decide +kernel), List.mem_of_getElem? (i := 2185) (by decide +kernel)⟩
def lw_privs_5 : List (MethodName × Nat) := [(⟨"SeriesVault", "checkRow", "(I)V"⟩, 18), (⟨"SeriesVault", "checkCell", "(II)V"⟩, 18), (⟨"SeriesVault", "doAgain", "(I)V"⟩, 18), (⟨"SeriesVaultModel", "readLabels", "()Z"⟩, 79), (⟨"SeriesVaultModel", "wordLength", "(I)I"⟩, 79), (⟨"SeriesVaultModel", "flaw", "(II)Z"⟩, 79), (⟨"SeriesVaultModel", "compare", "(IIII)I"⟩, 79), (⟨"SeriesVaultModel", "layText", "()I"⟩, 79), (⟨"SeriesVaultModel", "find", "(I)I"⟩, 79), (⟨"SeriesVaultModel", "hasRoom", "(I)Z"⟩, 79), (⟨"SeriesVaultModel", "record", "(IIJJI)Z"⟩, 79), (⟨"SeriesVaultModel", "synced", "()Z"⟩, 79), (⟨"SeriesVaultModel", "write", "()Z"⟩, 79), (⟨"SeriesVaultModel", "newSeries", "(II)V"⟩, 79), (⟨"SeriesVaultModel", "seriesFault", "(I)I"⟩, 79), (⟨"SeriesVaultModel", "why", "(IJ)I"⟩, 79)]
theorem lw_r5 : ∀ q ∈ lw_privs_5, lw_okq q := List.forall_mem_cons.mpr ⟨lw_p64, List.forall_mem_cons.mpr ⟨lw_p65, List.forall_mem_cons.mpr ⟨lw_p66, List.forall_mem_cons.mpr ⟨lw_p67, List.forall_mem_cons.mpr ⟨lw_p68, List.forall_mem_cons.mpr ⟨lw_p69, List.forall_mem_cons.mpr ⟨lw_p70, List.forall_mem_cons.mpr ⟨lw_p71, List.forall_mem_cons.mpr ⟨lw_p72, List.forall_mem_cons.mpr ⟨lw_p73, List.forall_mem_cons.mpr ⟨lw_p74, List.forall_mem_cons.mpr ⟨lw_p75, List.forall_mem_cons.mpr ⟨lw_p76, List.forall_mem_cons.mpr ⟨lw_p77, List.forall_mem_cons.mpr ⟨lw_p78, List.forall_mem_cons.mpr ⟨lw_p79, fun _ h => absurd h List.not_mem_nil⟩⟩⟩⟩⟩⟩⟩⟩⟩⟩⟩⟩⟩⟩⟩⟩
theorem lw_p80 : lw_okq (⟨"SeriesVaultModel", "come", "(IJJ)V"⟩, 79) := ⟨⟨by decide +kernel, by decide +kernel⟩, List.mem_of_getElem? (i := 1845) (by decide +kernel), List.mem_of_getElem? (i := 2189) (by decide +kernel), List.mem_of_getElem? (i := 2190) (by decide +kernel)⟩
theorem lw_p81 : lw_okq (⟨"SeriesVaultModel", "headCount", "()I"⟩, 79) := ⟨⟨by decide +kernel, by decide +kernel⟩, List.mem_of_getElem? (i := 1845) (by decide +kernel), List.mem_of_getElem? (i := 2193) (by decide +kernel), List.mem_of_getElem? (i := 2194) (by decide +kernel)⟩
theorem lw_p82 : lw_okq (⟨"SeriesVaultModel", "isSeen", "(I)Z"⟩, 79) := ⟨⟨by decide +kernel, by decide +kernel⟩, List.mem_of_getElem? (i := 1845) (by decide +kernel), List.mem_of_getElem? (i := 2197) (by decide +kernel), List.mem_of_getElem? (i := 2198) (by decide +kernel)⟩
theorem lw_p83 : lw_okq (⟨"SeriesVaultModel", "number", "(I)J"⟩, 79) := ⟨⟨by decide +kernel, by decide +kernel⟩, List.mem_of_getElem? (i := 1845) (by decide +kernel), List.mem_of_getElem? (i := 2205) (by decide +kernel), List.mem_of_getElem? (i := 2206) (by decide +kernel)⟩
theorem lw_p84 : lw_okq (⟨"SeriesVaultModel", "between", "(IJJZ)I"⟩, 79) := ⟨⟨by decide +kernel, by decide +kernel⟩, List.mem_of_getElem? (i := 1845) (by decide +kernel), List.mem_of_getElem? (i := 2213) (by decide +kernel), List.mem_of_getElem? (i := 2214) (by decide +kernel)⟩
theorem lw_p85 : lw_okq (⟨"SeriesVaultModel", "scars", "()I"⟩, 79) := ⟨⟨by decide +kernel, by decide +kernel⟩, List.mem_of_getElem? (i := 1845) (by decide +kernel), List.mem_of_getElem? (i := 2217) (by decide +kernel), List.mem_of_getElem? (i := 2218) (by decide +kernel)⟩
theorem lw_p86 : lw_okq (⟨"SeriesVaultModel", "go", "(IJJ)I"⟩, 79) := ⟨⟨by decide +kernel, by decide +kernel⟩, List.mem_of_getElem? (i := 1845) (by decide +kernel), List.mem_of_getElem? (i := 2221) (by decide +kernel), List.mem_of_getElem? (i := 2222) (by decide +kernel)⟩
theorem lw_p87 : lw_okq (⟨"SeriesVaultModel", "bitsOf", "(IIZ)J"⟩, 79) := ⟨⟨by decide +kernel, by decide +kernel⟩, List.mem_of_getElem? (i := 1845) (by decide +kernel), List.mem_of_getElem? (i := 2233) (by decide +kernel), List.mem_of_getElem? (i := 2234) (by decide +kernel)⟩
theorem lw_p88 : lw_okq (⟨"SeriesVaultModel", "catalogSize", "()I"⟩, 79) := ⟨⟨by decide +kernel, by decide +kernel⟩, List.mem_of_getElem? (i := 1845) (by decide +kernel), List.mem_of_getElem? (i := 2254) (by decide +kernel), List.mem_of_getElem? (i := 2255) (by decide +kernel)⟩
theorem lw_p89 : lw_okq (⟨"SeriesVaultModel", "free", "()I"⟩, 79) := ⟨⟨by decide +kernel, by decide +kernel⟩, List.mem_of_getElem? (i := 1845) (by decide +kernel), List.mem_of_getElem? (i := 2258) (by decide +kernel), List.mem_of_getElem? (i := 2259) (by decide +kernel)⟩
theorem lw_p90 : lw_okq (⟨"SeriesVaultModel", "write", "(I)Z"⟩, 79) := ⟨⟨by decide +kernel, by decide +kernel⟩, List.mem_of_getElem? (i := 1845) (by decide +kernel), List.mem_of_getElem? (i := 2262) (by decide +kernel), List.mem_of_getElem? (i := 2263) (by decide +kernel)⟩
theorem lw_p91 : lw_okq (⟨"SeriesVaultModel", "tidy", "()V"⟩, 79) := ⟨⟨by decide +kernel, by decide +kernel⟩, List.mem_of_getElem? (i := 1845) (by decide +kernel), List.mem_of_getElem? (i := 2266) (by decide +kernel), List.mem_of_getElem? (i := 2267) (by decide +kernel)⟩
theorem lw_p92 : lw_okq (⟨"SeriesVaultModel", "shown", "()V"⟩, 79) := ⟨⟨by decide +kernel, by decide +kernel⟩, List.mem_of_getElem? (i := 1845) (by decide +kernel), List.mem_of_getElem? (i := 2270) (by decide +kernel), List.mem_of_getElem? (i := 2271) (by decide +kernel)⟩
theorem lw_p93 : lw_okq (⟨"SeriesVaultModel", "remove", "(I)V"⟩, 79) := ⟨⟨by decide +kernel, by decide +kernel⟩, List.mem_of_getElem? (i := 1845) (by decide +kernel), List.mem_of_getElem? (i := 2278) (by decide +kernel), List.mem_of_getElem? (i := 2279) (by decide +kernel)⟩
theorem lw_p94 : lw_okq (⟨"SeriesVaultModel", "question", "(Z)Z"⟩, 79) := ⟨⟨by decide +kernel, by decide +kernel⟩, List.mem_of_getElem? (i := 1845) (by decide +kernel), List.mem_of_getElem? (i := 2314) (by decide +kernel), List.mem_of_getElem? (i := 2315) (by decide +kernel)⟩
theorem lw_p95 : lw_okq (⟨"SeriesVaultModel", "next", "()Z"⟩, 79) := ⟨⟨by decide +kernel, by decide +kernel⟩, List.mem_of_getElem? (i := 1845) (by decide +kernel), List.mem_of_getElem? (i := 2318) (by decide +kernel), List.mem_of_getElem? (i := 2319) (by decide +kernel)⟩
def lw_privs_6 : List (MethodName × Nat) := [(⟨"SeriesVaultModel", "come", "(IJJ)V"⟩, 79), (⟨"SeriesVaultModel", "headCount", "()I"⟩, 79), (⟨"SeriesVaultModel", "isSeen", "(I)Z"⟩, 79), (⟨"SeriesVaultModel", "number", "(I)J"⟩, 79), (⟨"SeriesVaultModel", "between", "(IJJZ)I"⟩, 79), (⟨"SeriesVaultModel", "scars", "()I"⟩, 79), (⟨"SeriesVaultModel", "go", "(IJJ)I"⟩, 79), (⟨"SeriesVaultModel", "bitsOf", "(IIZ)J"⟩, 79), (⟨"SeriesVaultModel", "catalogSize", "()I"⟩, 79), (⟨"SeriesVaultModel", "free", "()I"⟩, 79), (⟨"SeriesVaultModel", "write", "(I)Z"⟩, 79), (⟨"SeriesVaultModel", "tidy", "()V"⟩, 79), (⟨"SeriesVaultModel", "shown", "()V"⟩, 79), (⟨"SeriesVaultModel", "remove", "(I)V"⟩, 79), (⟨"SeriesVaultModel", "question", "(Z)Z"⟩, 79), (⟨"SeriesVaultModel", "next", "()Z"⟩, 79)]
theorem lw_r6 : ∀ q ∈ lw_privs_6, lw_okq q := List.forall_mem_cons.mpr ⟨lw_p80, List.forall_mem_cons.mpr ⟨lw_p81, List.forall_mem_cons.mpr ⟨lw_p82, List.forall_mem_cons.mpr ⟨lw_p83, List.forall_mem_cons.mpr ⟨lw_p84, List.forall_mem_cons.mpr ⟨lw_p85, List.forall_mem_cons.mpr ⟨lw_p86, List.forall_mem_cons.mpr ⟨lw_p87, List.forall_mem_cons.mpr ⟨lw_p88, List.forall_mem_cons.mpr ⟨lw_p89, List.forall_mem_cons.mpr ⟨lw_p90, List.forall_mem_cons.mpr ⟨lw_p91, List.forall_mem_cons.mpr ⟨lw_p92, List.forall_mem_cons.mpr ⟨lw_p93, List.forall_mem_cons.mpr ⟨lw_p94, List.forall_mem_cons.mpr ⟨lw_p95, fun _ h => absurd h List.not_mem_nil⟩⟩⟩⟩⟩⟩⟩⟩⟩⟩⟩⟩⟩⟩⟩⟩
theorem lw_p96 : lw_okq (⟨"SeriesVaultModel", "at", "(I)I"⟩, 79) := ⟨⟨by decide +kernel, by decide +kernel⟩, List.mem_of_getElem? (i := 1845) (by decide +kernel), List.mem_of_getElem? (i := 2322) (by decide +kernel), List.mem_of_getElem? (i := 2323) (by decide +kernel)⟩
theorem lw_p97 : lw_okq (⟨"SeriesVaultModel", "readNumber", "()Z"⟩, 79) := ⟨⟨by decide +kernel, by decide +kernel⟩, List.mem_of_getElem? (i := 1845) (by decide +kernel), List.mem_of_getElem? (i := 2329) (by decide +kernel), List.mem_of_getElem? (i := 2330) (by decide +kernel)⟩
theorem lw_p98 : lw_okq (⟨"SeriesVaultModel", "readSign", "(II)Z"⟩, 79) := ⟨⟨by decide +kernel, by decide +kernel⟩, List.mem_of_getElem? (i := 1845) (by decide +kernel), List.mem_of_getElem? (i := 2338) (by decide +kernel), List.mem_of_getElem? (i := 2339) (by decide +kernel)⟩
theorem lw_p99 : lw_okq (⟨"SeriesVaultModel", "operand", "()Z"⟩, 79) := ⟨⟨by decide +kernel, by decide +kernel⟩, List.mem_of_getElem? (i := 1845) (by decide +kernel), List.mem_of_getElem? (i := 2342) (by decide +kernel), List.mem_of_getElem? (i := 2343) (by decide +kernel)⟩
theorem lw_p100 : lw_okq (⟨"SeriesVaultModel", "opens", "(I)Z"⟩, 79) := ⟨⟨by decide +kernel, by decide +kernel⟩, List.mem_of_getElem? (i := 1845) (by decide +kernel), List.mem_of_getElem? (i := 2346) (by decide +kernel), List.mem_of_getElem? (i := 2347) (by decide +kernel)⟩
theorem lw_p101 : lw_okq (⟨"SeriesVaultModel", "function", "()I"⟩, 79) := ⟨⟨by decide +kernel, by decide +kernel⟩, List.mem_of_getElem? (i := 1845) (by decide +kernel), List.mem_of_getElem? (i := 2350) (by decide +kernel), List.mem_of_getElem? (i := 2351) (by decide +kernel)⟩
theorem lw_p102 : lw_okq (⟨"SeriesVaultModel", "isName", "(CCCCI)Z"⟩, 79) := ⟨⟨by decide +kernel, by decide +kernel⟩, List.mem_of_getElem? (i := 1845) (by decide +kernel), List.mem_of_getElem? (i := 2354) (by decide +kernel), List.mem_of_getElem? (i := 2355) (by decide +kernel)⟩
theorem lw_p103 : lw_okq (⟨"SeriesVaultModel", "isStart", "(CCC)Z"⟩, 79) := ⟨⟨by decide +kernel, by decide +kernel⟩, List.mem_of_getElem? (i := 1845) (by decide +kernel), List.mem_of_getElem? (i := 2358) (by decide +kernel), List.mem_of_getElem? (i := 2359) (by decide +kernel)⟩
theorem lw_p104 : lw_okq (⟨"SeriesVaultModel", "called", "(I)Z"⟩, 79) := ⟨⟨by decide +kernel, by decide +kernel⟩, List.mem_of_getElem? (i := 1845) (by decide +kernel), List.mem_of_getElem? (i := 2362) (by decide +kernel), List.mem_of_getElem? (i := 2363) (by decide +kernel)⟩
theorem lw_p105 : lw_okq (⟨"SeriesVaultModel", "by", "()Z"⟩, 79) := ⟨⟨by decide +kernel, by decide +kernel⟩, List.mem_of_getElem? (i := 1845) (by decide +kernel), List.mem_of_getElem? (i := 2366) (by decide +kernel), List.mem_of_getElem? (i := 2367) (by decide +kernel)⟩
theorem lw_p106 : lw_okq (⟨"SeriesVaultModel", "need", "(I)Z"⟩, 79) := ⟨⟨by decide +kernel, by decide +kernel⟩, List.mem_of_getElem? (i := 1845) (by decide +kernel), List.mem_of_getElem? (i := 2370) (by decide +kernel), List.mem_of_getElem? (i := 2371) (by decide +kernel)⟩
theorem lw_p107 : lw_okq (⟨"SeriesVaultModel", "match", "()Z"⟩, 79) := ⟨⟨by decide +kernel, by decide +kernel⟩, List.mem_of_getElem? (i := 1845) (by decide +kernel), List.mem_of_getElem? (i := 2374) (by decide +kernel), List.mem_of_getElem? (i := 2375) (by decide +kernel)⟩
theorem lw_p108 : lw_okq (⟨"SeriesVaultModel", "reckon", "(II)V"⟩, 79) := ⟨⟨by decide +kernel, by decide +kernel⟩, List.mem_of_getElem? (i := 1845) (by decide +kernel), List.mem_of_getElem? (i := 2378) (by decide +kernel), List.mem_of_getElem? (i := 2379) (by decide +kernel)⟩
theorem lw_p109 : lw_okq (⟨"SeriesVaultModel", "group", "(II)V"⟩, 79) := ⟨⟨by decide +kernel, by decide +kernel⟩, List.mem_of_getElem? (i := 1845) (by decide +kernel), List.mem_of_getElem? (i := 2382) (by decide +kernel), List.mem_of_getElem? (i := 2383) (by decide +kernel)⟩
theorem lw_p110 : lw_okq (⟨"SeriesVaultModel", "matches", "(II)Z"⟩, 79) := ⟨⟨by decide +kernel, by decide +kernel⟩, List.mem_of_getElem? (i := 1845) (by decide +kernel), List.mem_of_getElem? (i := 2386) (by decide +kernel), List.mem_of_getElem? (i := 2387) (by decide +kernel)⟩
theorem lw_p111 : lw_okq (⟨"SeriesVaultModel", "valueOf", "(III)I"⟩, 79) := ⟨⟨by decide +kernel, by decide +kernel⟩, List.mem_of_getElem? (i := 1845) (by decide +kernel), List.mem_of_getElem? (i := 2390) (by decide +kernel), List.mem_of_getElem? (i := 2391) (by decide +kernel)⟩
def lw_privs_7 : List (MethodName × Nat) := [(⟨"SeriesVaultModel", "at", "(I)I"⟩, 79), (⟨"SeriesVaultModel", "readNumber", "()Z"⟩, 79), (⟨"SeriesVaultModel", "readSign", "(II)Z"⟩, 79), (⟨"SeriesVaultModel", "operand", "()Z"⟩, 79), (⟨"SeriesVaultModel", "opens", "(I)Z"⟩, 79), (⟨"SeriesVaultModel", "function", "()I"⟩, 79), (⟨"SeriesVaultModel", "isName", "(CCCCI)Z"⟩, 79), (⟨"SeriesVaultModel", "isStart", "(CCC)Z"⟩, 79), (⟨"SeriesVaultModel", "called", "(I)Z"⟩, 79), (⟨"SeriesVaultModel", "by", "()Z"⟩, 79), (⟨"SeriesVaultModel", "need", "(I)Z"⟩, 79), (⟨"SeriesVaultModel", "match", "()Z"⟩, 79), (⟨"SeriesVaultModel", "reckon", "(II)V"⟩, 79), (⟨"SeriesVaultModel", "group", "(II)V"⟩, 79), (⟨"SeriesVaultModel", "matches", "(II)Z"⟩, 79), (⟨"SeriesVaultModel", "valueOf", "(III)I"⟩, 79)]
theorem lw_r7 : ∀ q ∈ lw_privs_7, lw_okq q := List.forall_mem_cons.mpr ⟨lw_p96, List.forall_mem_cons.mpr ⟨lw_p97, List.forall_mem_cons.mpr ⟨lw_p98, List.forall_mem_cons.mpr ⟨lw_p99, List.forall_mem_cons.mpr ⟨lw_p100, List.forall_mem_cons.mpr ⟨lw_p101, List.forall_mem_cons.mpr ⟨lw_p102, List.forall_mem_cons.mpr ⟨lw_p103, List.forall_mem_cons.mpr ⟨lw_p104, List.forall_mem_cons.mpr ⟨lw_p105, List.forall_mem_cons.mpr ⟨lw_p106, List.forall_mem_cons.mpr ⟨lw_p107, List.forall_mem_cons.mpr ⟨lw_p108, List.forall_mem_cons.mpr ⟨lw_p109, List.forall_mem_cons.mpr ⟨lw_p110, List.forall_mem_cons.mpr ⟨lw_p111, fun _ h => absurd h List.not_mem_nil⟩⟩⟩⟩⟩⟩⟩⟩⟩⟩⟩⟩⟩⟩⟩⟩
theorem lw_p112 : lw_okq (⟨"SeriesVaultModel", "compareRows", "(III)I"⟩, 79) := ⟨⟨by decide +kernel, by decide +kernel⟩, List.mem_of_getElem? (i := 1845) (by decide +kernel), List.mem_of_getElem? (i := 2394) (by decide +kernel), List.mem_of_getElem? (i := 2395) (by decide +kernel)⟩
theorem lw_p113 : lw_okq (⟨"SeriesVaultModel", "gather", "(IIIII)V"⟩, 79) := ⟨⟨by decide +kernel, by decide +kernel⟩, List.mem_of_getElem? (i := 1845) (by decide +kernel), List.mem_of_getElem? (i := 2398) (by decide +kernel), List.mem_of_getElem? (i := 2399) (by decide +kernel)⟩
theorem lw_p114 : lw_okq (⟨"SeriesVaultModel", "sweep", "(I)V"⟩, 79) := ⟨⟨by decide +kernel, by decide +kernel⟩, List.mem_of_getElem? (i := 1845) (by decide +kernel), List.mem_of_getElem? (i := 2405) (by decide +kernel), List.mem_of_getElem? (i := 2406) (by decide +kernel)⟩
theorem lw_p115 : lw_okq (⟨"SeriesVaultModel", "number", "()V"⟩, 79) := ⟨⟨by decide +kernel, by decide +kernel⟩, List.mem_of_getElem? (i := 1845) (by decide +kernel), List.mem_of_getElem? (i := 2409) (by decide +kernel), List.mem_of_getElem? (i := 2410) (by decide +kernel)⟩
theorem lw_p116 : lw_okq (⟨"SeriesVaultModel", "doneTo", "(I)Z"⟩, 79) := ⟨⟨by decide +kernel, by decide +kernel⟩, List.mem_of_getElem? (i := 1845) (by decide +kernel), List.mem_of_getElem? (i := 2413) (by decide +kernel), List.mem_of_getElem? (i := 2414) (by decide +kernel)⟩
theorem lw_p117 : lw_okq (⟨"SeriesVaultModel", "done", "()Z"⟩, 79) := ⟨⟨by decide +kernel, by decide +kernel⟩, List.mem_of_getElem? (i := 1845) (by decide +kernel), List.mem_of_getElem? (i := 2420) (by decide +kernel), List.mem_of_getElem? (i := 2421) (by decide +kernel)⟩
theorem lw_p118 : lw_okq (⟨"SeriesVaultModel", "negate", "()V"⟩, 79) := ⟨⟨by decide +kernel, by decide +kernel⟩, List.mem_of_getElem? (i := 1845) (by decide +kernel), List.mem_of_getElem? (i := 2424) (by decide +kernel), List.mem_of_getElem? (i := 2425) (by decide +kernel)⟩
theorem lw_p119 : lw_okq (⟨"SeriesVaultModel", "operate", "(II)Z"⟩, 79) := ⟨⟨by decide +kernel, by decide +kernel⟩, List.mem_of_getElem? (i := 1845) (by decide +kernel), List.mem_of_getElem? (i := 2428) (by decide +kernel), List.mem_of_getElem? (i := 2429) (by decide +kernel)⟩
theorem lw_p120 : lw_okq (⟨"SeriesVaultModel", "hasSameNames", "(II)Z"⟩, 79) := ⟨⟨by decide +kernel, by decide +kernel⟩, List.mem_of_getElem? (i := 1845) (by decide +kernel), List.mem_of_getElem? (i := 2432) (by decide +kernel), List.mem_of_getElem? (i := 2433) (by decide +kernel)⟩
theorem lw_p121 : lw_okq (⟨"SeriesVaultModel", "meet", "(III)V"⟩, 79) := ⟨⟨by decide +kernel, by decide +kernel⟩, List.mem_of_getElem? (i := 1845) (by decide +kernel), List.mem_of_getElem? (i := 2436) (by decide +kernel), List.mem_of_getElem? (i := 2437) (by decide +kernel)⟩
theorem lw_p122 : lw_okq (⟨"SeriesVaultModel", "join", "(IIII)V"⟩, 79) := ⟨⟨by decide +kernel, by decide +kernel⟩, List.mem_of_getElem? (i := 1845) (by decide +kernel), List.mem_of_getElem? (i := 2440) (by decide +kernel), List.mem_of_getElem? (i := 2441) (by decide +kernel)⟩
theorem lw_p123 : lw_okq (⟨"SeriesVaultModel", "spread", "(III)V"⟩, 79) := ⟨⟨by decide +kernel, by decide +kernel⟩, List.mem_of_getElem? (i := 1845) (by decide +kernel), List.mem_of_getElem? (i := 2444) (by decide +kernel), List.mem_of_getElem? (i := 2445) (by decide +kernel)⟩
theorem lw_p124 : lw_okq (⟨"SeriesVaultModel", "operator", "()Z"⟩, 79) := ⟨⟨by decide +kernel, by decide +kernel⟩, List.mem_of_getElem? (i := 1845) (by decide +kernel), List.mem_of_getElem? (i := 2448) (by decide +kernel), List.mem_of_getElem? (i := 2449) (by decide +kernel)⟩
theorem lw_p125 : lw_okq (⟨"SeriesVaultModel", "isOpen", "()Z"⟩, 79) := ⟨⟨by decide +kernel, by decide +kernel⟩, List.mem_of_getElem? (i := 1845) (by decide +kernel), List.mem_of_getElem? (i := 2452) (by decide +kernel), List.mem_of_getElem? (i := 2453) (by decide +kernel)⟩
theorem lw_p126 : lw_okq (⟨"SeriesVaultModel", "keepTable", "()V"⟩, 79) := ⟨⟨by decide +kernel, by decide +kernel⟩, List.mem_of_getElem? (i := 1845) (by decide +kernel), List.mem_of_getElem? (i := 2456) (by decide +kernel), List.mem_of_getElem? (i := 2457) (by decide +kernel)⟩
theorem lw_p127 : lw_okq (⟨"SeriesVaultModel", "isRow", "(I)Z"⟩, 79) := ⟨⟨by decide +kernel, by decide +kernel⟩, List.mem_of_getElem? (i := 1845) (by decide +kernel), List.mem_of_getElem? (i := 2468) (by decide +kernel), List.mem_of_getElem? (i := 2469) (by decide +kernel)⟩
def lw_privs_8 : List (MethodName × Nat) := [(⟨"SeriesVaultModel", "compareRows", "(III)I"⟩, 79), (⟨"SeriesVaultModel", "gather", "(IIIII)V"⟩, 79), (⟨"SeriesVaultModel", "sweep", "(I)V"⟩, 79), (⟨"SeriesVaultModel", "number", "()V"⟩, 79), (⟨"SeriesVaultModel", "doneTo", "(I)Z"⟩, 79), (⟨"SeriesVaultModel", "done", "()Z"⟩, 79), (⟨"SeriesVaultModel", "negate", "()V"⟩, 79), (⟨"SeriesVaultModel", "operate", "(II)Z"⟩, 79), (⟨"SeriesVaultModel", "hasSameNames", "(II)Z"⟩, 79), (⟨"SeriesVaultModel", "meet", "(III)V"⟩, 79), (⟨"SeriesVaultModel", "join", "(IIII)V"⟩, 79), (⟨"SeriesVaultModel", "spread", "(III)V"⟩, 79), (⟨"SeriesVaultModel", "operator", "()Z"⟩, 79), (⟨"SeriesVaultModel", "isOpen", "()Z"⟩, 79), (⟨"SeriesVaultModel", "keepTable", "()V"⟩, 79), (⟨"SeriesVaultModel", "isRow", "(I)Z"⟩, 79)]
theorem lw_r8 : ∀ q ∈ lw_privs_8, lw_okq q := List.forall_mem_cons.mpr ⟨lw_p112, List.forall_mem_cons.mpr ⟨lw_p113, List.forall_mem_cons.mpr ⟨lw_p114, List.forall_mem_cons.mpr ⟨lw_p115, List.forall_mem_cons.mpr ⟨lw_p116, List.forall_mem_cons.mpr ⟨lw_p117, List.forall_mem_cons.mpr ⟨lw_p118, List.forall_mem_cons.mpr ⟨lw_p119, List.forall_mem_cons.mpr ⟨lw_p120, List.forall_mem_cons.mpr ⟨lw_p121, List.forall_mem_cons.mpr ⟨lw_p122, List.forall_mem_cons.mpr ⟨lw_p123, List.forall_mem_cons.mpr ⟨lw_p124, List.forall_mem_cons.mpr ⟨lw_p125, List.forall_mem_cons.mpr ⟨lw_p126, List.forall_mem_cons.mpr ⟨lw_p127, fun _ h => absurd h List.not_mem_nil⟩⟩⟩⟩⟩⟩⟩⟩⟩⟩⟩⟩⟩⟩⟩⟩
def lw_privs : List (MethodName × Nat) := lw_privs_1 ++ (lw_privs_2 ++ (lw_privs_3 ++ (lw_privs_4 ++ (lw_privs_5 ++ (lw_privs_6 ++ (lw_privs_7 ++ (lw_privs_8)))))))
def lw_tbl : List Cond := k2_sels lw_privs ++ tables_1
theorem lw_privs_ok : ∀ q ∈ lw_privs, lw_okq q := by
  show ∀ q ∈ lw_privs_1 ++ (lw_privs_2 ++ (lw_privs_3 ++ (lw_privs_4 ++ (lw_privs_5 ++ (lw_privs_6 ++ (lw_privs_7 ++ (lw_privs_8))))))), lw_okq q
  exact List.forall_mem_append.mpr ⟨lw_r1, List.forall_mem_append.mpr ⟨lw_r2, List.forall_mem_append.mpr ⟨lw_r3, List.forall_mem_append.mpr ⟨lw_r4, List.forall_mem_append.mpr ⟨lw_r5, List.forall_mem_append.mpr ⟨lw_r6, List.forall_mem_append.mpr ⟨lw_r7, lw_r8⟩⟩⟩⟩⟩⟩⟩
end
section
/-! Words that go along from a state to a later one. -/
/-- .. words of the tables, and those of static fields where no cell of statics has been written -/
def cw_b : Cond → Bool
  | .fieldLinkNest .. => true
  | .castable .. => true
  | .declares _ => true
  | .arrayOver (.object _) => true
  | .laysStatic .. => true
  | w => goodWord w
def aW : List Cond := lw_tbl.filter cw_b
def zU : Cond := .isRef (.static "java/lang/Throwable" "UNASSIGNED_STACK" "[Ljava/lang/StackTraceElement;")
def zS : Cond := .isRef (.static "java/lang/Throwable" "SUPPRESSED_SENTINEL" "Ljava/util/List;")
def wU : Cond := .laysStatic "java/lang/Throwable" "UNASSIGNED_STACK" "[Ljava/lang/StackTraceElement;"
def wS : Cond := .laysStatic "java/lang/Throwable" "SUPPRESSED_SENTINEL" "Ljava/util/List;"
/-- exceptions that a row of the law's tables passes over: the one thrown, the one that the row names -/
def ncL : List (String × String) := [("java/lang/UnsupportedOperationException", "java/lang/IllegalStateException"), ("java/lang/IndexOutOfBoundsException", "java/lang/IllegalStateException"), ("java/lang/IllegalArgumentException", "java/lang/IllegalStateException"), ("java/lang/IllegalArgumentException", "java/lang/IndexOutOfBoundsException"), ("java/lang/UnsupportedOperationException", "java/lang/IndexOutOfBoundsException"), ("java/lang/UnsupportedOperationException", "java/lang/IllegalArgumentException")]
/-- the surroundings of a call -/
def eV (U : State) : Prop := (∀ w ∈ aW, w.before #[] U = true) ∧ wU.before #[] U = true ∧ wS.before #[] U = true ∧ zU.before #[] U = true ∧ zS.before #[] U = true ∧ ∀ q ∈ ncL, va_Nc q.1 q.2 U
/-- no cell of statics has changed -/
def sK (H0 H : Heap) : Prop := ∀ (q : Nat) (cell : Cell), H0[q]? = some cell → cell.vm.isStatics = true → H[q]? = some cell
theorem cw_tr {s U : State} {c : Cond} (hc : c.onTables = true) (h : c.before #[] (s.setVm U.vm) = true) : c.before #[] U = true := by
  have e := Cond.onTables_vm (A := #[]) (A' := #[]) (U := s) (U' := U) U.vm c hc
  have hU : U.setVm U.vm = U := rfl
  rw [hU] at e
  rw [← e]
  exact h
theorem cw_lays {s U : State} (hW : s.WarmedH U.vm) (hK : sK s.heap U.heap) {C n d : String} (h : (Cond.laysStatic C n d).before #[] s = true) : (Cond.laysStatic C n d).before #[] U = true := by
  obtain ⟨c, k, i, f, a, cell, h1, h2, h3, h4, h5, h6, h7, h8, h9⟩ := Cond.laysStatic_spec h
  obtain ⟨k', hi', he⟩ := State.fieldFound?_setVm hW.alike h2
  show (Cond.laysStatic C n d).holds #[] U none U [] = true
  exact Cond.laysStatic_of (by rw [hW.alike.findClass]; exact h1) hi' h3 (by rw [he]; exact h4) (hK _ _ h5 h6) h6 h7 h8 (by rw [he]; exact h9)
theorem cw_ref {s U : State} (hW : s.WarmedH U.vm) (hK : sK s.heap U.heap) {C n d : String} (hl : (Cond.laysStatic C n d).before #[] s = true) (h : (Cond.isRef (.static C n d)).before #[] s = true) : (Cond.isRef (.static C n d)).before #[] U = true := by
  obtain ⟨c, k, i, f, a, cell, h1, h2, h3, h4, h5, h6, h7, h8, h9⟩ := Cond.laysStatic_spec hl
  obtain ⟨k', hi', he⟩ := State.fieldFound?_setVm hW.alike h2
  have e1 : (Term.static C n d).eval #[] s none [] s = cell.slots[f.slot]? := by simp [Term.eval, State.fieldNamed?, h2, h3, h4, h5, h6]
  have e2 : (Term.static C n d).eval #[] U none [] U = cell.slots[f.slot]? := by
    have h4' : k'.statics = some a := by rw [he]; exact h4
    have hi2 : U.fieldFound? C n d = some (c, k', i, f) := hi'
    simp [Term.eval, State.fieldNamed?, hi2, h3, h4', hK _ _ h5 h6, h6]
  simp only [Cond.before, Cond.holds, Cond.value, e1] at h
  simp only [Cond.before, Cond.holds, Cond.value, e2]
  exact h
theorem cw_go {s U : State} (hW : s.WarmedH U.vm) (hK : sK s.heap U.heap) {w : Cond} (hc : cw_b w = true) (h : w.before #[] s = true) : w.before #[] U = true := by
  cases w with
  | fieldLinkNest a i b n d x => exact va_Nw.warmF hW h
  | castable C T => exact cw_tr (s := s) rfl (by rw [Cond.castable_setVm hW.alike]; exact h)
  | declares x => exact cw_tr (s := s) rfl (by rw [Cond.declares_setVm hW.alike]; exact h)
  | laysStatic C n d => exact cw_lays hW hK h
  | arrayOver ty =>
    cases ty with
    | object C => exact va_AO.moved hW.alike h
    | _ => exact word_at hW (good_of_word hc) h
  | _ => exact word_at hW (good_of_word hc) h
theorem eV.go {s U : State} (hE : eV s) (hW : s.WarmedH U.vm) (hK : sK s.heap U.heap) : eV U :=
  ⟨fun w hw => cw_go hW hK (List.mem_filter.mp hw).2 (hE.1 w hw), cw_lays hW hK hE.2.1, cw_lays hW hK hE.2.2.1, cw_ref hW hK hE.2.1 hE.2.2.2.1, cw_ref hW hK hE.2.2.1 hE.2.2.2.2.1, fun q hq => (hE.2.2.2.2.2 q hq).moved hW.alike⟩
theorem sK.rf {H : Heap} : sK H H := fun _ _ h _ => h
theorem eV.t {s : State} {args : Array Value} {w : Cond} (hE : eV s) (hm : w ∈ aW) (ht : w.onTables = true) : w.before args s = true := va_tabs ht rfl (hE.1 w hm)
theorem eV.a {s : State} {args : Array Value} {ty : FieldType} (hE : eV s) (hm : Cond.arrayClass ty ∈ aW) : (Cond.arrayClass ty).before args s = true := hE.1 _ hm
theorem aw_of {w : Cond} (h : w ∈ tables_1) (hc : cw_b w = true) : w ∈ aW := List.mem_filter.mpr ⟨List.mem_append_right _ h, hc⟩
theorem aw_pr {w : Cond} (h : w ∈ k2_sels lw_privs) (hc : cw_b w = true) : w ∈ aW := List.mem_filter.mpr ⟨List.mem_append_left _ h, hc⟩
theorem tb_1 {w : Cond} (h : w ∈ tables_1_1) : w ∈ tables_1 := List.mem_append_left _ h
theorem tb_2 {w : Cond} (h : w ∈ tables_1_2) : w ∈ tables_1 := List.mem_append_right _ (List.mem_append_left _ h)
theorem tb_3 {w : Cond} (h : w ∈ tables_1_3) : w ∈ tables_1 := List.mem_append_right _ (List.mem_append_right _ (List.mem_append_left _ h))
theorem tb_4 {w : Cond} (h : w ∈ tables_1_4) : w ∈ tables_1 := List.mem_append_right _ (List.mem_append_right _ (List.mem_append_right _ (List.mem_append_left _ h)))
theorem tb_5 {w : Cond} (h : w ∈ tables_1_5) : w ∈ tables_1 := List.mem_append_right _ (List.mem_append_right _ (List.mem_append_right _ (List.mem_append_right _ (List.mem_append_left _ h))))
theorem tb_6 {w : Cond} (h : w ∈ tables_1_6) : w ∈ tables_1 := List.mem_append_right _ (List.mem_append_right _ (List.mem_append_right _ (List.mem_append_right _ (List.mem_append_right _ (List.mem_append_left _ h)))))
theorem tb_7 {w : Cond} (h : w ∈ tables_1_7) : w ∈ tables_1 := List.mem_append_right _ (List.mem_append_right _ (List.mem_append_right _ (List.mem_append_right _ (List.mem_append_right _ (List.mem_append_right _ (List.mem_append_left _ h))))))
theorem tb_8 {w : Cond} (h : w ∈ tables_1_8) : w ∈ tables_1 := List.mem_append_right _ (List.mem_append_right _ (List.mem_append_right _ (List.mem_append_right _ (List.mem_append_right _ (List.mem_append_right _ (List.mem_append_right _ (List.mem_append_left _ h)))))))
theorem tb_9 {w : Cond} (h : w ∈ tables_1_9) : w ∈ tables_1 := List.mem_append_right _ (List.mem_append_right _ (List.mem_append_right _ (List.mem_append_right _ (List.mem_append_right _ (List.mem_append_right _ (List.mem_append_right _ (List.mem_append_right _ (List.mem_append_left _ h))))))))
theorem tb_10 {w : Cond} (h : w ∈ tables_1_10) : w ∈ tables_1 := List.mem_append_right _ (List.mem_append_right _ (List.mem_append_right _ (List.mem_append_right _ (List.mem_append_right _ (List.mem_append_right _ (List.mem_append_right _ (List.mem_append_right _ (List.mem_append_right _ (List.mem_append_left _ h)))))))))
theorem tb_11 {w : Cond} (h : w ∈ tables_1_11) : w ∈ tables_1 := List.mem_append_right _ (List.mem_append_right _ (List.mem_append_right _ (List.mem_append_right _ (List.mem_append_right _ (List.mem_append_right _ (List.mem_append_right _ (List.mem_append_right _ (List.mem_append_right _ (List.mem_append_right _ h)))))))))
/-- the cells of a world, and those that come later, are none of statics -/
theorem ns_A {D : va_G} {cl : List vw_C} {ws : va_W} {H : Heap} (hP : va_P D cl ws H) {q : Nat} {cell : Cell} (hq : va_A ws H.size q) (hc : H[q]? = some cell) : cell.vm.isStatics = false := by
  rcases hq with ⟨k, e, h⟩ | h
  · have h1 := hP k _ h
    cases e with
    | inl x =>
      have h2 : H[q]? = some (vp_cell x.1 x.2) := h1
      rw [hc] at h2
      cases h2
      obtain ⟨c, n, f | f | f | f | f⟩ := x <;> rfl
    | inr o =>
      obtain ⟨r, -, cell2, g1, g2, g3, -⟩ := h1
      rw [hc] at g1
      cases g1
      rw [g3]; rfl
  · have := (Array.getElem?_eq_some_iff.mp hc).1
    omega
theorem sK_of {D : va_G} {cl : List vw_C} {ws : va_W} {H0 H : Heap} {locs : List Loc} (hP : va_P D cl ws H0) (hS : va_S (va_A ws H0.size) H0 H locs) : sK H0 H := by
  intro q cell hc hs
  by_cases hq : va_A ws H0.size q
  · have := ns_A hP hq hc
    rw [hs] at this
    cases this
  · rw [hS.2.1 q (Array.getElem?_eq_some_iff.mp hc).1 hq]
    exact hc
end
section
/-! The classes: names, fields, types. -/
theorem pv_1 {q : MethodName × Nat} (h : q ∈ lw_privs_1) : q ∈ lw_privs := List.mem_append_left _ h
theorem pv_2 {q : MethodName × Nat} (h : q ∈ lw_privs_2) : q ∈ lw_privs := List.mem_append_right _ (List.mem_append_left _ h)
theorem pv_3 {q : MethodName × Nat} (h : q ∈ lw_privs_3) : q ∈ lw_privs := List.mem_append_right _ (List.mem_append_right _ (List.mem_append_left _ h))
theorem pv_4 {q : MethodName × Nat} (h : q ∈ lw_privs_4) : q ∈ lw_privs := List.mem_append_right _ (List.mem_append_right _ (List.mem_append_right _ (List.mem_append_left _ h)))
theorem pv_5 {q : MethodName × Nat} (h : q ∈ lw_privs_5) : q ∈ lw_privs := List.mem_append_right _ (List.mem_append_right _ (List.mem_append_right _ (List.mem_append_right _ (List.mem_append_left _ h))))
theorem pv_6 {q : MethodName × Nat} (h : q ∈ lw_privs_6) : q ∈ lw_privs := List.mem_append_right _ (List.mem_append_right _ (List.mem_append_right _ (List.mem_append_right _ (List.mem_append_right _ (List.mem_append_left _ h)))))
theorem pv_7 {q : MethodName × Nat} (h : q ∈ lw_privs_7) : q ∈ lw_privs := List.mem_append_right _ (List.mem_append_right _ (List.mem_append_right _ (List.mem_append_right _ (List.mem_append_right _ (List.mem_append_right _ (List.mem_append_left _ h))))))
theorem pv_8 {q : MethodName × Nat} (h : q ∈ lw_privs_8) : q ∈ lw_privs := List.mem_append_right _ (List.mem_append_right _ (List.mem_append_right _ (List.mem_append_right _ (List.mem_append_right _ (List.mem_append_right _ (List.mem_append_right _ (h)))))))
theorem w0 : Cond.lays "SeriesVault" "SeriesVault" "tape" "[B" ∈ aW := aw_of (tb_2 (List.mem_of_getElem? (i := 223) rfl)) rfl
theorem w1 : Cond.lays "SeriesVault" "SeriesVault" "tapeLength" "I" ∈ aW := aw_of (tb_2 (List.mem_of_getElem? (i := 225) rfl)) rfl
theorem w2 : Cond.lays "SeriesVault" "SeriesVault" "faultCode" "I" ∈ aW := aw_of (tb_2 (List.mem_of_getElem? (i := 227) rfl)) rfl
theorem w3 : Cond.lays "SeriesVault" "SeriesVault" "faultPlace" "I" ∈ aW := aw_of (tb_2 (List.mem_of_getElem? (i := 229) rfl)) rfl
theorem w4 : Cond.lays "SeriesVault" "SeriesVault" "diskBlocks" "I" ∈ aW := aw_of (tb_2 (List.mem_of_getElem? (i := 231) rfl)) rfl
theorem w5 : Cond.lays "SeriesVault" "SeriesVault" "powered" "Z" ∈ aW := aw_of (tb_2 (List.mem_of_getElem? (i := 233) rfl)) rfl
theorem w6 : Cond.lays "SeriesVault" "SeriesVault" "cutLeft" "I" ∈ aW := aw_of (tb_2 (List.mem_of_getElem? (i := 235) rfl)) rfl
theorem w7 : Cond.lays "SeriesVault" "SeriesVault" "writes" "I" ∈ aW := aw_of (tb_2 (List.mem_of_getElem? (i := 237) rfl)) rfl
theorem w8 : Cond.laysFinal "SeriesVault" "SeriesVault" "journal" "LSeriesVault$Journal;" ∈ aW := aw_of (tb_2 (List.mem_of_getElem? (i := 239) rfl)) rfl
theorem w9 : Cond.laysFinal "SeriesVault" "SeriesVault" "head" "LSeriesVault$Points;" ∈ aW := aw_of (tb_3 (List.mem_of_getElem? (i := 1) rfl)) rfl
theorem w10 : Cond.laysFinal "SeriesVault" "SeriesVault" "gathered" "LSeriesVault$Points;" ∈ aW := aw_of (tb_3 (List.mem_of_getElem? (i := 3) rfl)) rfl
theorem w11 : Cond.laysFinal "SeriesVault" "SeriesVault" "now" "LSeriesVault$Shelf;" ∈ aW := aw_of (tb_3 (List.mem_of_getElem? (i := 5) rfl)) rfl
theorem w12 : Cond.laysFinal "SeriesVault" "SeriesVault" "saved" "LSeriesVault$Shelf;" ∈ aW := aw_of (tb_3 (List.mem_of_getElem? (i := 7) rfl)) rfl
theorem w13 : Cond.laysFinal "SeriesVault" "SeriesVault" "known" "[LSeriesVault$Series;" ∈ aW := aw_of (tb_3 (List.mem_of_getElem? (i := 9) rfl)) rfl
theorem w14 : Cond.laysFinal "SeriesVault" "SeriesVault" "reader" "LSeriesVault$SeriesReader;" ∈ aW := aw_of (tb_3 (List.mem_of_getElem? (i := 11) rfl)) rfl
theorem w15 : Cond.laysFinal "SeriesVault" "SeriesVault" "question" "LSeriesVault$Question;" ∈ aW := aw_of (tb_3 (List.mem_of_getElem? (i := 13) rfl)) rfl
theorem w16 : Cond.laysFinal "SeriesVault" "SeriesVault" "answers" "LSeriesVault$Answers;" ∈ aW := aw_of (tb_3 (List.mem_of_getElem? (i := 15) rfl)) rfl
theorem w17 : Cond.lays "SeriesVault" "SeriesVault" "hasTable" "Z" ∈ aW := aw_of (tb_3 (List.mem_of_getElem? (i := 17) rfl)) rfl
theorem w18 : Cond.lays "SeriesVault$Journal" "SeriesVault$Journal" "kinds" "[I" ∈ aW := aw_of (tb_1 (List.mem_of_getElem? (i := 74) rfl)) rfl
theorem w19 : Cond.lays "SeriesVault$Journal" "SeriesVault$Journal" "owners" "[I" ∈ aW := aw_of (tb_1 (List.mem_of_getElem? (i := 76) rfl)) rfl
theorem w20 : Cond.lays "SeriesVault$Journal" "SeriesVault$Journal" "unitsOf" "[I" ∈ aW := aw_of (tb_1 (List.mem_of_getElem? (i := 78) rfl)) rfl
theorem w21 : Cond.lays "SeriesVault$Journal" "SeriesVault$Journal" "blocksOf" "[I" ∈ aW := aw_of (tb_1 (List.mem_of_getElem? (i := 80) rfl)) rfl
theorem w22 : Cond.lays "SeriesVault$Journal" "SeriesVault$Journal" "firsts" "[J" ∈ aW := aw_of (tb_1 (List.mem_of_getElem? (i := 82) rfl)) rfl
theorem w23 : Cond.lays "SeriesVault$Journal" "SeriesVault$Journal" "seconds" "[J" ∈ aW := aw_of (tb_1 (List.mem_of_getElem? (i := 84) rfl)) rfl
theorem w24 : Cond.lays "SeriesVault$Journal" "SeriesVault$Journal" "size" "I" ∈ aW := aw_of (tb_1 (List.mem_of_getElem? (i := 86) rfl)) rfl
theorem w25 : Cond.lays "SeriesVault$Journal" "SeriesVault$Journal" "kept" "I" ∈ aW := aw_of (tb_1 (List.mem_of_getElem? (i := 88) rfl)) rfl
theorem w26 : Cond.lays "SeriesVault$Journal" "SeriesVault$Journal" "units" "I" ∈ aW := aw_of (tb_1 (List.mem_of_getElem? (i := 90) rfl)) rfl
theorem w27 : Cond.lays "SeriesVault$Journal" "SeriesVault$Journal" "blockLimit" "I" ∈ aW := aw_of (tb_1 (List.mem_of_getElem? (i := 92) rfl)) rfl
theorem w28 : Cond.lays "SeriesVault$Journal" "SeriesVault$Journal" "block" "I" ∈ aW := aw_of (tb_1 (List.mem_of_getElem? (i := 94) rfl)) rfl
theorem w29 : Cond.lays "SeriesVault$Journal" "SeriesVault$Journal" "fill" "I" ∈ aW := aw_of (tb_1 (List.mem_of_getElem? (i := 96) rfl)) rfl
theorem w30 : Cond.lays "SeriesVault$Journal" "SeriesVault$Journal" "changed" "Z" ∈ aW := aw_of (tb_1 (List.mem_of_getElem? (i := 98) rfl)) rfl
theorem w31 : Cond.lays "SeriesVault$Points" "SeriesVault$Points" "owners" "[I" ∈ aW := aw_of (tb_1 (List.mem_of_getElem? (i := 123) rfl)) rfl
theorem w32 : Cond.lays "SeriesVault$Points" "SeriesVault$Points" "times" "[J" ∈ aW := aw_of (tb_1 (List.mem_of_getElem? (i := 125) rfl)) rfl
theorem w33 : Cond.lays "SeriesVault$Points" "SeriesVault$Points" "values" "[J" ∈ aW := aw_of (tb_1 (List.mem_of_getElem? (i := 127) rfl)) rfl
theorem w34 : Cond.lays "SeriesVault$Points" "SeriesVault$Points" "size" "I" ∈ aW := aw_of (tb_1 (List.mem_of_getElem? (i := 129) rfl)) rfl
theorem w35 : Cond.laysFinal "SeriesVault$Shelf" "SeriesVault$Shelf" "parcels" "[LSeriesVault$Parcel;" ∈ aW := aw_of (tb_1 (List.mem_of_getElem? (i := 161) rfl)) rfl
theorem w36 : Cond.lays "SeriesVault$Shelf" "SeriesVault$Shelf" "parcelCount" "I" ∈ aW := aw_of (tb_1 (List.mem_of_getElem? (i := 163) rfl)) rfl
theorem w37 : Cond.laysFinal "SeriesVault$Shelf" "SeriesVault$Shelf" "scarOwners" "[I" ∈ aW := aw_of (tb_1 (List.mem_of_getElem? (i := 165) rfl)) rfl
theorem w38 : Cond.laysFinal "SeriesVault$Shelf" "SeriesVault$Shelf" "scarFroms" "[J" ∈ aW := aw_of (tb_1 (List.mem_of_getElem? (i := 167) rfl)) rfl
theorem w39 : Cond.laysFinal "SeriesVault$Shelf" "SeriesVault$Shelf" "scarTos" "[J" ∈ aW := aw_of (tb_1 (List.mem_of_getElem? (i := 169) rfl)) rfl
theorem w40 : Cond.laysFinal "SeriesVault$Shelf" "SeriesVault$Shelf" "scarPoints" "[I" ∈ aW := aw_of (tb_1 (List.mem_of_getElem? (i := 171) rfl)) rfl
theorem w41 : Cond.lays "SeriesVault$Shelf" "SeriesVault$Shelf" "scarCount" "I" ∈ aW := aw_of (tb_1 (List.mem_of_getElem? (i := 173) rfl)) rfl
theorem w42 : Cond.lays "SeriesVault$Shelf" "SeriesVault$Shelf" "horizon" "J" ∈ aW := aw_of (tb_1 (List.mem_of_getElem? (i := 175) rfl)) rfl
theorem w43 : Cond.lays "SeriesVault$Shelf" "SeriesVault$Shelf" "seriesCount" "I" ∈ aW := aw_of (tb_1 (List.mem_of_getElem? (i := 177) rfl)) rfl
theorem w44 : Cond.laysFinal "SeriesVault$Shelf" "SeriesVault$Shelf" "lasts" "[J" ∈ aW := aw_of (tb_1 (List.mem_of_getElem? (i := 179) rfl)) rfl
theorem w45 : Cond.lays "SeriesVault$Shelf" "SeriesVault$Shelf" "catalogBlocks" "I" ∈ aW := aw_of (tb_1 (List.mem_of_getElem? (i := 181) rfl)) rfl
theorem w46 : Cond.laysFinal "SeriesVault$SeriesReader" "SeriesVault$SeriesReader" "nameStarts" "[I" ∈ aW := aw_of (tb_1 (List.mem_of_getElem? (i := 200) rfl)) rfl
theorem w47 : Cond.laysFinal "SeriesVault$SeriesReader" "SeriesVault$SeriesReader" "nameEnds" "[I" ∈ aW := aw_of (tb_1 (List.mem_of_getElem? (i := 202) rfl)) rfl
theorem w48 : Cond.laysFinal "SeriesVault$SeriesReader" "SeriesVault$SeriesReader" "valueEnds" "[I" ∈ aW := aw_of (tb_1 (List.mem_of_getElem? (i := 204) rfl)) rfl
theorem w49 : Cond.lays "SeriesVault$SeriesReader" "SeriesVault$SeriesReader" "labels" "I" ∈ aW := aw_of (tb_1 (List.mem_of_getElem? (i := 206) rfl)) rfl
theorem w50 : Cond.lays "SeriesVault$SeriesReader" "SeriesVault$SeriesReader" "faultCode" "I" ∈ aW := aw_of (tb_1 (List.mem_of_getElem? (i := 208) rfl)) rfl
theorem w51 : Cond.lays "SeriesVault$SeriesReader" "SeriesVault$SeriesReader" "faultPlace" "I" ∈ aW := aw_of (tb_1 (List.mem_of_getElem? (i := 210) rfl)) rfl
theorem w52 : Cond.lays "SeriesVault$Question" "SeriesVault$Question" "tape" "[B" ∈ aW := aw_of (tb_2 (List.mem_of_getElem? (i := 17) rfl)) rfl
theorem w53 : Cond.lays "SeriesVault$Question" "SeriesVault$Question" "length" "I" ∈ aW := aw_of (tb_2 (List.mem_of_getElem? (i := 19) rfl)) rfl
theorem w54 : Cond.lays "SeriesVault$Question" "SeriesVault$Question" "tokenKind" "I" ∈ aW := aw_of (tb_2 (List.mem_of_getElem? (i := 21) rfl)) rfl
theorem w55 : Cond.lays "SeriesVault$Question" "SeriesVault$Question" "tokenStart" "I" ∈ aW := aw_of (tb_2 (List.mem_of_getElem? (i := 23) rfl)) rfl
theorem w56 : Cond.lays "SeriesVault$Question" "SeriesVault$Question" "tokenEnd" "I" ∈ aW := aw_of (tb_2 (List.mem_of_getElem? (i := 25) rfl)) rfl
theorem w57 : Cond.lays "SeriesVault$Question" "SeriesVault$Question" "tokenNumber" "J" ∈ aW := aw_of (tb_2 (List.mem_of_getElem? (i := 27) rfl)) rfl
theorem w58 : Cond.lays "SeriesVault$Question" "SeriesVault$Question" "faultCode" "I" ∈ aW := aw_of (tb_2 (List.mem_of_getElem? (i := 29) rfl)) rfl
theorem w59 : Cond.lays "SeriesVault$Question" "SeriesVault$Question" "faultPlace" "I" ∈ aW := aw_of (tb_2 (List.mem_of_getElem? (i := 31) rfl)) rfl
theorem w60 : Cond.laysFinal "SeriesVault$Question" "SeriesVault$Question" "steps" "Ljava/util/ArrayList;" ∈ aW := aw_of (tb_2 (List.mem_of_getElem? (i := 33) rfl)) rfl
theorem w61 : Cond.lays "java/util/ArrayList" "java/util/ArrayList" "elementData" "[Ljava/lang/Object;" ∈ aW := aw_of (tb_1 (List.mem_of_getElem? (i := 238) rfl)) rfl
theorem w62 : Cond.lays "java/util/ArrayList" "java/util/ArrayList" "size" "I" ∈ aW := aw_of (tb_2 (List.mem_of_getElem? (i := 0) rfl)) rfl
theorem w63 : Cond.lays "java/util/ArrayList" "java/util/AbstractList" "modCount" "I" ∈ aW := aw_of (tb_2 (List.mem_of_getElem? (i := 2) rfl)) rfl
theorem w64 : Cond.laysFinal "SeriesVault$Answers" "SeriesVault$Answers" "stack" "Ljava/util/ArrayList;" ∈ aW := aw_of (tb_2 (List.mem_of_getElem? (i := 159) rfl)) rfl
theorem w65 : Cond.lays "SeriesVault$Answers" "SeriesVault$Answers" "depth" "I" ∈ aW := aw_of (tb_2 (List.mem_of_getElem? (i := 161) rfl)) rfl
theorem w66 : Cond.laysFinal "SeriesVault$Answers" "SeriesVault$Answers" "rowOf" "[I" ∈ aW := aw_of (tb_2 (List.mem_of_getElem? (i := 163) rfl)) rfl
theorem w67 : Cond.laysFinal "SeriesVault$Answers" "SeriesVault$Answers" "hasBefore" "[Z" ∈ aW := aw_of (tb_2 (List.mem_of_getElem? (i := 165) rfl)) rfl
theorem w68 : Cond.laysFinal "SeriesVault$Answers" "SeriesVault$Answers" "before" "[J" ∈ aW := aw_of (tb_2 (List.mem_of_getElem? (i := 167) rfl)) rfl
theorem w69 : Cond.lays "SeriesVault$Answers" "SeriesVault$Answers" "bestTimes" "[J" ∈ aW := aw_of (tb_2 (List.mem_of_getElem? (i := 169) rfl)) rfl
theorem w70 : Cond.lays "SeriesVault$Answers" "SeriesVault$Answers" "bestOwners" "[I" ∈ aW := aw_of (tb_2 (List.mem_of_getElem? (i := 171) rfl)) rfl
theorem w71 : Cond.lays "SeriesVault$Answers" "SeriesVault$Answers" "from" "J" ∈ aW := aw_of (tb_2 (List.mem_of_getElem? (i := 173) rfl)) rfl
theorem w72 : Cond.lays "SeriesVault$Answers" "SeriesVault$Answers" "width" "J" ∈ aW := aw_of (tb_2 (List.mem_of_getElem? (i := 175) rfl)) rfl
theorem w73 : Cond.lays "SeriesVault$Answers" "SeriesVault$Answers" "windows" "I" ∈ aW := aw_of (tb_2 (List.mem_of_getElem? (i := 177) rfl)) rfl
theorem w74 : Cond.laysFinal "SeriesVault$Table" "SeriesVault$Table" "names" "[LSeriesVault$Word;" ∈ aW := aw_of (tb_2 (List.mem_of_getElem? (i := 65) rfl)) rfl
theorem w75 : Cond.lays "SeriesVault$Table" "SeriesVault$Table" "nameCount" "I" ∈ aW := aw_of (tb_2 (List.mem_of_getElem? (i := 67) rfl)) rfl
theorem w76 : Cond.lays "SeriesVault$Table" "SeriesVault$Table" "windows" "I" ∈ aW := aw_of (tb_2 (List.mem_of_getElem? (i := 69) rfl)) rfl
theorem w77 : Cond.lays "SeriesVault$Table" "SeriesVault$Table" "rowCount" "I" ∈ aW := aw_of (tb_2 (List.mem_of_getElem? (i := 71) rfl)) rfl
theorem w78 : Cond.laysFinal "SeriesVault$Table" "SeriesVault$Table" "rowSeries" "[LSeriesVault$Series;" ∈ aW := aw_of (tb_2 (List.mem_of_getElem? (i := 73) rfl)) rfl
theorem w79 : Cond.laysFinal "SeriesVault$Table" "SeriesVault$Table" "there" "[J" ∈ aW := aw_of (tb_2 (List.mem_of_getElem? (i := 75) rfl)) rfl
theorem w80 : Cond.lays "SeriesVault$Table" "SeriesVault$Table" "cells" "[J" ∈ aW := aw_of (tb_2 (List.mem_of_getElem? (i := 77) rfl)) rfl
theorem w81 : Cond.lays "SeriesVaultModel" "SeriesVaultModel" "code" "I" ∈ aW := aw_of (tb_9 (List.mem_of_getElem? (i := 13) rfl)) rfl
theorem w82 : Cond.laysFinal "SeriesVaultModel" "SeriesVaultModel" "tape" "[B" ∈ aW := aw_of (tb_9 (List.mem_of_getElem? (i := 15) rfl)) rfl
theorem w83 : Cond.lays "SeriesVaultModel" "SeriesVaultModel" "length" "I" ∈ aW := aw_of (tb_9 (List.mem_of_getElem? (i := 17) rfl)) rfl
theorem w84 : Cond.lays "SeriesVaultModel" "SeriesVaultModel" "faultCode" "I" ∈ aW := aw_of (tb_9 (List.mem_of_getElem? (i := 19) rfl)) rfl
theorem w85 : Cond.lays "SeriesVaultModel" "SeriesVaultModel" "faultPlace" "I" ∈ aW := aw_of (tb_9 (List.mem_of_getElem? (i := 21) rfl)) rfl
theorem w86 : Cond.lays "SeriesVaultModel" "SeriesVaultModel" "blocks" "I" ∈ aW := aw_of (tb_9 (List.mem_of_getElem? (i := 23) rfl)) rfl
theorem w87 : Cond.lays "SeriesVaultModel" "SeriesVaultModel" "journal" "I" ∈ aW := aw_of (tb_9 (List.mem_of_getElem? (i := 25) rfl)) rfl
theorem w88 : Cond.lays "SeriesVaultModel" "SeriesVaultModel" "on" "Z" ∈ aW := aw_of (tb_9 (List.mem_of_getElem? (i := 27) rfl)) rfl
theorem w89 : Cond.lays "SeriesVaultModel" "SeriesVaultModel" "cutLeft" "I" ∈ aW := aw_of (tb_9 (List.mem_of_getElem? (i := 29) rfl)) rfl
theorem w90 : Cond.lays "SeriesVaultModel" "SeriesVaultModel" "written" "I" ∈ aW := aw_of (tb_9 (List.mem_of_getElem? (i := 31) rfl)) rfl
theorem w91 : Cond.laysFinal "SeriesVaultModel" "SeriesVaultModel" "texts" "[B" ∈ aW := aw_of (tb_9 (List.mem_of_getElem? (i := 33) rfl)) rfl
theorem w92 : Cond.laysFinal "SeriesVaultModel" "SeriesVaultModel" "textLengths" "[I" ∈ aW := aw_of (tb_9 (List.mem_of_getElem? (i := 35) rfl)) rfl
theorem w93 : Cond.lays "SeriesVaultModel" "SeriesVaultModel" "seriesCount" "I" ∈ aW := aw_of (tb_9 (List.mem_of_getElem? (i := 37) rfl)) rfl
theorem w94 : Cond.laysFinal "SeriesVaultModel" "SeriesVaultModel" "lasts" "[J" ∈ aW := aw_of (tb_9 (List.mem_of_getElem? (i := 39) rfl)) rfl
theorem w95 : Cond.lays "SeriesVaultModel" "SeriesVaultModel" "baseSeries" "I" ∈ aW := aw_of (tb_9 (List.mem_of_getElem? (i := 41) rfl)) rfl
theorem w96 : Cond.laysFinal "SeriesVaultModel" "SeriesVaultModel" "baseLasts" "[J" ∈ aW := aw_of (tb_9 (List.mem_of_getElem? (i := 43) rfl)) rfl
theorem w97 : Cond.lays "SeriesVaultModel" "SeriesVaultModel" "catalogBlocks" "I" ∈ aW := aw_of (tb_9 (List.mem_of_getElem? (i := 45) rfl)) rfl
theorem w98 : Cond.laysFinal "SeriesVaultModel" "SeriesVaultModel" "pointSeries" "[I" ∈ aW := aw_of (tb_9 (List.mem_of_getElem? (i := 47) rfl)) rfl
theorem w99 : Cond.laysFinal "SeriesVaultModel" "SeriesVaultModel" "pointTimes" "[J" ∈ aW := aw_of (tb_9 (List.mem_of_getElem? (i := 49) rfl)) rfl
theorem w100 : Cond.laysFinal "SeriesVaultModel" "SeriesVaultModel" "pointValues" "[J" ∈ aW := aw_of (tb_9 (List.mem_of_getElem? (i := 51) rfl)) rfl
theorem w101 : Cond.laysFinal "SeriesVaultModel" "SeriesVaultModel" "places" "[I" ∈ aW := aw_of (tb_9 (List.mem_of_getElem? (i := 53) rfl)) rfl
theorem w102 : Cond.laysFinal "SeriesVaultModel" "SeriesVaultModel" "hidden" "[I" ∈ aW := aw_of (tb_9 (List.mem_of_getElem? (i := 55) rfl)) rfl
theorem w103 : Cond.laysFinal "SeriesVaultModel" "SeriesVaultModel" "baseHidden" "[I" ∈ aW := aw_of (tb_9 (List.mem_of_getElem? (i := 57) rfl)) rfl
theorem w104 : Cond.lays "SeriesVaultModel" "SeriesVaultModel" "points" "I" ∈ aW := aw_of (tb_9 (List.mem_of_getElem? (i := 59) rfl)) rfl
theorem w105 : Cond.lays "SeriesVaultModel" "SeriesVaultModel" "horizon" "J" ∈ aW := aw_of (tb_9 (List.mem_of_getElem? (i := 61) rfl)) rfl
theorem w106 : Cond.lays "SeriesVaultModel" "SeriesVaultModel" "baseHorizon" "J" ∈ aW := aw_of (tb_9 (List.mem_of_getElem? (i := 63) rfl)) rfl
theorem w107 : Cond.laysFinal "SeriesVaultModel" "SeriesVaultModel" "parcels" "[I" ∈ aW := aw_of (tb_9 (List.mem_of_getElem? (i := 65) rfl)) rfl
theorem w108 : Cond.laysFinal "SeriesVaultModel" "SeriesVaultModel" "parcelBlocks" "[I" ∈ aW := aw_of (tb_9 (List.mem_of_getElem? (i := 67) rfl)) rfl
theorem w109 : Cond.lays "SeriesVaultModel" "SeriesVaultModel" "parcelCount" "I" ∈ aW := aw_of (tb_9 (List.mem_of_getElem? (i := 69) rfl)) rfl
theorem w110 : Cond.lays "SeriesVaultModel" "SeriesVaultModel" "parcelNumber" "I" ∈ aW := aw_of (tb_9 (List.mem_of_getElem? (i := 71) rfl)) rfl
theorem w111 : Cond.lays "SeriesVaultModel" "SeriesVaultModel" "deletes" "I" ∈ aW := aw_of (tb_9 (List.mem_of_getElem? (i := 73) rfl)) rfl
theorem w112 : Cond.laysFinal "SeriesVaultModel" "SeriesVaultModel" "kinds" "[B" ∈ aW := aw_of (tb_9 (List.mem_of_getElem? (i := 75) rfl)) rfl
theorem w113 : Cond.laysFinal "SeriesVaultModel" "SeriesVaultModel" "recordSeries" "[I" ∈ aW := aw_of (tb_9 (List.mem_of_getElem? (i := 77) rfl)) rfl
theorem w114 : Cond.laysFinal "SeriesVaultModel" "SeriesVaultModel" "firsts" "[J" ∈ aW := aw_of (tb_9 (List.mem_of_getElem? (i := 79) rfl)) rfl
theorem w115 : Cond.laysFinal "SeriesVaultModel" "SeriesVaultModel" "seconds" "[J" ∈ aW := aw_of (tb_9 (List.mem_of_getElem? (i := 81) rfl)) rfl
theorem w116 : Cond.laysFinal "SeriesVaultModel" "SeriesVaultModel" "units" "[I" ∈ aW := aw_of (tb_9 (List.mem_of_getElem? (i := 83) rfl)) rfl
theorem w117 : Cond.laysFinal "SeriesVaultModel" "SeriesVaultModel" "recordBlocks" "[I" ∈ aW := aw_of (tb_9 (List.mem_of_getElem? (i := 85) rfl)) rfl
theorem w118 : Cond.lays "SeriesVaultModel" "SeriesVaultModel" "records" "I" ∈ aW := aw_of (tb_9 (List.mem_of_getElem? (i := 87) rfl)) rfl
theorem w119 : Cond.lays "SeriesVaultModel" "SeriesVaultModel" "kept" "I" ∈ aW := aw_of (tb_9 (List.mem_of_getElem? (i := 89) rfl)) rfl
theorem w120 : Cond.lays "SeriesVaultModel" "SeriesVaultModel" "block" "I" ∈ aW := aw_of (tb_9 (List.mem_of_getElem? (i := 91) rfl)) rfl
theorem w121 : Cond.lays "SeriesVaultModel" "SeriesVaultModel" "used" "I" ∈ aW := aw_of (tb_9 (List.mem_of_getElem? (i := 93) rfl)) rfl
theorem w122 : Cond.lays "SeriesVaultModel" "SeriesVaultModel" "fresh" "Z" ∈ aW := aw_of (tb_9 (List.mem_of_getElem? (i := 95) rfl)) rfl
theorem w123 : Cond.laysFinal "SeriesVaultModel" "SeriesVaultModel" "labels" "[I" ∈ aW := aw_of (tb_9 (List.mem_of_getElem? (i := 97) rfl)) rfl
theorem w124 : Cond.lays "SeriesVaultModel" "SeriesVaultModel" "labelCount" "I" ∈ aW := aw_of (tb_9 (List.mem_of_getElem? (i := 99) rfl)) rfl
theorem w125 : Cond.lays "SeriesVaultModel" "SeriesVaultModel" "kind" "I" ∈ aW := aw_of (tb_9 (List.mem_of_getElem? (i := 101) rfl)) rfl
theorem w126 : Cond.lays "SeriesVaultModel" "SeriesVaultModel" "from" "I" ∈ aW := aw_of (tb_9 (List.mem_of_getElem? (i := 103) rfl)) rfl
theorem w127 : Cond.lays "SeriesVaultModel" "SeriesVaultModel" "to" "I" ∈ aW := aw_of (tb_9 (List.mem_of_getElem? (i := 105) rfl)) rfl
theorem w128 : Cond.lays "SeriesVaultModel" "SeriesVaultModel" "amount" "J" ∈ aW := aw_of (tb_9 (List.mem_of_getElem? (i := 107) rfl)) rfl
theorem w129 : Cond.laysFinal "SeriesVaultModel" "SeriesVaultModel" "tableNames" "[I" ∈ aW := aw_of (tb_9 (List.mem_of_getElem? (i := 109) rfl)) rfl
theorem w130 : Cond.laysFinal "SeriesVaultModel" "SeriesVaultModel" "nameFroms" "[I" ∈ aW := aw_of (tb_9 (List.mem_of_getElem? (i := 111) rfl)) rfl
theorem w131 : Cond.laysFinal "SeriesVaultModel" "SeriesVaultModel" "nameLengths" "[I" ∈ aW := aw_of (tb_9 (List.mem_of_getElem? (i := 113) rfl)) rfl
theorem w132 : Cond.laysFinal "SeriesVaultModel" "SeriesVaultModel" "tableRows" "[I" ∈ aW := aw_of (tb_9 (List.mem_of_getElem? (i := 115) rfl)) rfl
theorem w133 : Cond.laysFinal "SeriesVaultModel" "SeriesVaultModel" "rowSeries" "[I" ∈ aW := aw_of (tb_9 (List.mem_of_getElem? (i := 117) rfl)) rfl
theorem w134 : Cond.laysFinal "SeriesVaultModel" "SeriesVaultModel" "cells" "[J" ∈ aW := aw_of (tb_9 (List.mem_of_getElem? (i := 119) rfl)) rfl
theorem w135 : Cond.laysFinal "SeriesVaultModel" "SeriesVaultModel" "isCell" "[Z" ∈ aW := aw_of (tb_9 (List.mem_of_getElem? (i := 121) rfl)) rfl
theorem w136 : Cond.lays "SeriesVaultModel" "SeriesVaultModel" "pile" "I" ∈ aW := aw_of (tb_9 (List.mem_of_getElem? (i := 123) rfl)) rfl
theorem w137 : Cond.lays "SeriesVaultModel" "SeriesVaultModel" "works" "Z" ∈ aW := aw_of (tb_9 (List.mem_of_getElem? (i := 125) rfl)) rfl
theorem w138 : Cond.lays "SeriesVaultModel" "SeriesVaultModel" "windowsFrom" "J" ∈ aW := aw_of (tb_9 (List.mem_of_getElem? (i := 127) rfl)) rfl
theorem w139 : Cond.lays "SeriesVaultModel" "SeriesVaultModel" "width" "J" ∈ aW := aw_of (tb_9 (List.mem_of_getElem? (i := 129) rfl)) rfl
theorem w140 : Cond.lays "SeriesVaultModel" "SeriesVaultModel" "windows" "I" ∈ aW := aw_of (tb_9 (List.mem_of_getElem? (i := 131) rfl)) rfl
theorem w141 : Cond.lays "SeriesVaultModel" "SeriesVaultModel" "valueLength" "I" ∈ aW := aw_of (tb_9 (List.mem_of_getElem? (i := 133) rfl)) rfl
theorem w142 : Cond.laysFinal "SeriesVaultModel" "SeriesVaultModel" "rowOf" "[I" ∈ aW := aw_of (tb_9 (List.mem_of_getElem? (i := 135) rfl)) rfl
theorem w143 : Cond.laysFinal "SeriesVaultModel" "SeriesVaultModel" "keyTimes" "[J" ∈ aW := aw_of (tb_9 (List.mem_of_getElem? (i := 137) rfl)) rfl
theorem w144 : Cond.laysFinal "SeriesVaultModel" "SeriesVaultModel" "keySeries" "[I" ∈ aW := aw_of (tb_9 (List.mem_of_getElem? (i := 139) rfl)) rfl
theorem w145 : Cond.laysFinal "SeriesVaultModel" "SeriesVaultModel" "befores" "[J" ∈ aW := aw_of (tb_9 (List.mem_of_getElem? (i := 141) rfl)) rfl
theorem w146 : Cond.laysFinal "SeriesVaultModel" "SeriesVaultModel" "hasBefore" "[Z" ∈ aW := aw_of (tb_9 (List.mem_of_getElem? (i := 143) rfl)) rfl
theorem w147 : Cond.laysFinal "SeriesVaultModel" "SeriesVaultModel" "signs" "[I" ∈ aW := aw_of (tb_9 (List.mem_of_getElem? (i := 145) rfl)) rfl
theorem w148 : Cond.laysFinal "SeriesVaultModel" "SeriesVaultModel" "signPlaces" "[I" ∈ aW := aw_of (tb_9 (List.mem_of_getElem? (i := 147) rfl)) rfl
theorem w149 : Cond.lays "SeriesVaultModel" "SeriesVaultModel" "signCount" "I" ∈ aW := aw_of (tb_9 (List.mem_of_getElem? (i := 149) rfl)) rfl
theorem w150 : Cond.lays "SeriesVaultModel" "SeriesVaultModel" "open" "I" ∈ aW := aw_of (tb_9 (List.mem_of_getElem? (i := 151) rfl)) rfl
theorem w151 : Cond.lays "SeriesVaultModel" "SeriesVaultModel" "wants" "Z" ∈ aW := aw_of (tb_9 (List.mem_of_getElem? (i := 153) rfl)) rfl
theorem w152 : Cond.lays "SeriesVaultModel" "SeriesVaultModel" "isTable" "Z" ∈ aW := aw_of (tb_9 (List.mem_of_getElem? (i := 155) rfl)) rfl
theorem w153 : Cond.lays "SeriesVaultModel" "SeriesVaultModel" "names" "I" ∈ aW := aw_of (tb_9 (List.mem_of_getElem? (i := 157) rfl)) rfl
theorem w154 : Cond.lays "SeriesVaultModel" "SeriesVaultModel" "rows" "I" ∈ aW := aw_of (tb_9 (List.mem_of_getElem? (i := 159) rfl)) rfl
theorem w155 : Cond.lays "SeriesVaultModel" "SeriesVaultModel" "shownWindows" "I" ∈ aW := aw_of (tb_9 (List.mem_of_getElem? (i := 161) rfl)) rfl
theorem w156 : Cond.laysFinal "SeriesVaultModel" "SeriesVaultModel" "rowTexts" "[B" ∈ aW := aw_of (tb_9 (List.mem_of_getElem? (i := 163) rfl)) rfl
theorem w157 : Cond.laysFinal "SeriesVaultModel" "SeriesVaultModel" "rowLengths" "[I" ∈ aW := aw_of (tb_9 (List.mem_of_getElem? (i := 165) rfl)) rfl
theorem w158 : Cond.laysFinal "SeriesVaultModel" "SeriesVaultModel" "shown" "[J" ∈ aW := aw_of (tb_9 (List.mem_of_getElem? (i := 167) rfl)) rfl
theorem w159 : Cond.laysFinal "SeriesVaultModel" "SeriesVaultModel" "isShown" "[Z" ∈ aW := aw_of (tb_9 (List.mem_of_getElem? (i := 169) rfl)) rfl
theorem w160 : Cond.laysFinal "SeriesVault$Word" "SeriesVault$Word" "bytes" "[B" ∈ aW := aw_of (tb_4 (List.mem_of_getElem? (i := 221) rfl)) rfl
theorem w161 : Cond.laysFinal "SeriesVault$Series" "SeriesVault$Series" "names" "[LSeriesVault$Word;" ∈ aW := aw_of (tb_5 (List.mem_of_getElem? (i := 9) rfl)) rfl
theorem w162 : Cond.laysFinal "SeriesVault$Series" "SeriesVault$Series" "values" "[LSeriesVault$Word;" ∈ aW := aw_of (tb_5 (List.mem_of_getElem? (i := 11) rfl)) rfl
theorem w163 : Cond.laysFinal "SeriesVault$Series" "SeriesVault$Series" "nothing" "LSeriesVault$Word;" ∈ aW := aw_of (tb_5 (List.mem_of_getElem? (i := 13) rfl)) rfl
theorem w164 : Cond.laysFinal "SeriesVault$Series" "SeriesVault$Series" "text" "LSeriesVault$Word;" ∈ aW := aw_of (tb_5 (List.mem_of_getElem? (i := 15) rfl)) rfl
theorem w165 : Cond.laysFinal "SeriesVault$Parcel" "SeriesVault$Parcel" "owners" "[I" ∈ aW := aw_of (tb_6 (List.mem_of_getElem? (i := 66) rfl)) rfl
theorem w166 : Cond.laysFinal "SeriesVault$Parcel" "SeriesVault$Parcel" "times" "[J" ∈ aW := aw_of (tb_6 (List.mem_of_getElem? (i := 68) rfl)) rfl
theorem w167 : Cond.laysFinal "SeriesVault$Parcel" "SeriesVault$Parcel" "values" "[J" ∈ aW := aw_of (tb_6 (List.mem_of_getElem? (i := 70) rfl)) rfl
theorem w168 : Cond.laysFinal "SeriesVault$Parcel" "SeriesVault$Parcel" "size" "I" ∈ aW := aw_of (tb_6 (List.mem_of_getElem? (i := 72) rfl)) rfl
theorem w169 : Cond.laysFinal "SeriesVault$Parcel" "SeriesVault$Parcel" "chunks" "I" ∈ aW := aw_of (tb_6 (List.mem_of_getElem? (i := 74) rfl)) rfl
theorem w170 : Cond.laysFinal "SeriesVault$Parcel" "SeriesVault$Parcel" "bits" "I" ∈ aW := aw_of (tb_6 (List.mem_of_getElem? (i := 76) rfl)) rfl
theorem w171 : Cond.laysFinal "SeriesVault$Parcel" "SeriesVault$Parcel" "blocks" "I" ∈ aW := aw_of (tb_6 (List.mem_of_getElem? (i := 78) rfl)) rfl
theorem w172 : Cond.laysFinal "SeriesVault$Parcel" "SeriesVault$Parcel" "newest" "J" ∈ aW := aw_of (tb_6 (List.mem_of_getElem? (i := 80) rfl)) rfl
theorem w173 : Cond.laysFinal "SeriesVault$Step" "SeriesVault$Step" "kind" "I" ∈ aW := aw_of (tb_7 (List.mem_of_getElem? (i := 23) rfl)) rfl
theorem w174 : Cond.laysFinal "SeriesVault$Step" "SeriesVault$Step" "place" "I" ∈ aW := aw_of (tb_7 (List.mem_of_getElem? (i := 25) rfl)) rfl
theorem w175 : Cond.laysFinal "SeriesVault$Step" "SeriesVault$Step" "number" "J" ∈ aW := aw_of (tb_7 (List.mem_of_getElem? (i := 27) rfl)) rfl
theorem w176 : Cond.laysFinal "SeriesVault$Step" "SeriesVault$Step" "names" "[LSeriesVault$Word;" ∈ aW := aw_of (tb_7 (List.mem_of_getElem? (i := 29) rfl)) rfl
theorem w177 : Cond.lays "SeriesVault$Step" "SeriesVault$Step" "nameCount" "I" ∈ aW := aw_of (tb_7 (List.mem_of_getElem? (i := 31) rfl)) rfl
theorem w178 : Cond.laysFinal "SeriesVault$Step" "SeriesVault$Step" "matchNames" "Ljava/util/ArrayList;" ∈ aW := aw_of (tb_7 (List.mem_of_getElem? (i := 33) rfl)) rfl
theorem w179 : Cond.laysFinal "SeriesVault$Step" "SeriesVault$Step" "matchTexts" "Ljava/util/ArrayList;" ∈ aW := aw_of (tb_7 (List.mem_of_getElem? (i := 35) rfl)) rfl
theorem w180 : Cond.lays "SeriesVault$Step" "SeriesVault$Step" "matchKinds" "[I" ∈ aW := aw_of (tb_7 (List.mem_of_getElem? (i := 37) rfl)) rfl
def TV : u_T := fun k => match k with
  | 0 => ("SeriesVault", "tape", "[B", false)
  | 1 => ("SeriesVault", "tapeLength", "I", false)
  | 2 => ("SeriesVault", "faultCode", "I", false)
  | 3 => ("SeriesVault", "faultPlace", "I", false)
  | 4 => ("SeriesVault", "diskBlocks", "I", false)
  | 5 => ("SeriesVault", "powered", "Z", false)
  | 6 => ("SeriesVault", "cutLeft", "I", false)
  | 7 => ("SeriesVault", "writes", "I", false)
  | 8 => ("SeriesVault", "journal", "LSeriesVault$Journal;", true)
  | 9 => ("SeriesVault", "head", "LSeriesVault$Points;", true)
  | 10 => ("SeriesVault", "gathered", "LSeriesVault$Points;", true)
  | 11 => ("SeriesVault", "now", "LSeriesVault$Shelf;", true)
  | 12 => ("SeriesVault", "saved", "LSeriesVault$Shelf;", true)
  | 13 => ("SeriesVault", "known", "[LSeriesVault$Series;", true)
  | 14 => ("SeriesVault", "reader", "LSeriesVault$SeriesReader;", true)
  | 15 => ("SeriesVault", "question", "LSeriesVault$Question;", true)
  | 16 => ("SeriesVault", "answers", "LSeriesVault$Answers;", true)
  | _ => ("SeriesVault", "hasTable", "Z", false)
def tyV : Nat → FieldType := fun k => match k with
  | 0 => .array .byte
  | 1 => .int
  | 2 => .int
  | 3 => .int
  | 4 => .int
  | 5 => .boolean
  | 6 => .int
  | 7 => .int
  | 8 => .object "SeriesVault$Journal"
  | 9 => .object "SeriesVault$Points"
  | 10 => .object "SeriesVault$Points"
  | 11 => .object "SeriesVault$Shelf"
  | 12 => .object "SeriesVault$Shelf"
  | 13 => .array (.object "SeriesVault$Series")
  | 14 => .object "SeriesVault$SeriesReader"
  | 15 => .object "SeriesVault$Question"
  | 16 => .object "SeriesVault$Answers"
  | _ => .boolean
set_option maxRecDepth 100000 in
theorem nmV : ∀ a, a < 18 → ∀ b, b < 18 → a ≠ b → (TV a).2.1 ≠ (TV b).2.1 := by decide +kernel
set_option maxRecDepth 100000 in
theorem tokV : ∀ k, k < 18 → parseFieldDescriptor (TV k).2.2.1 = some (tyV k) := by decide +kernel
theorem layV : ∀ w ∈ u_ws "SeriesVault" TV 18, w ∈ aW := List.forall_mem_cons.mpr ⟨w0, List.forall_mem_cons.mpr ⟨w1, List.forall_mem_cons.mpr ⟨w2, List.forall_mem_cons.mpr ⟨w3, List.forall_mem_cons.mpr ⟨w4, List.forall_mem_cons.mpr ⟨w5, List.forall_mem_cons.mpr ⟨w6, List.forall_mem_cons.mpr ⟨w7, List.forall_mem_cons.mpr ⟨w8, List.forall_mem_cons.mpr ⟨w9, List.forall_mem_cons.mpr ⟨w10, List.forall_mem_cons.mpr ⟨w11, List.forall_mem_cons.mpr ⟨w12, List.forall_mem_cons.mpr ⟨w13, List.forall_mem_cons.mpr ⟨w14, List.forall_mem_cons.mpr ⟨w15, List.forall_mem_cons.mpr ⟨w16, List.forall_mem_cons.mpr ⟨w17, fun _ h => absurd h List.not_mem_nil⟩⟩⟩⟩⟩⟩⟩⟩⟩⟩⟩⟩⟩⟩⟩⟩⟩⟩
def TJ : u_T := fun k => match k with
  | 0 => ("SeriesVault$Journal", "kinds", "[I", false)
  | 1 => ("SeriesVault$Journal", "owners", "[I", false)
  | 2 => ("SeriesVault$Journal", "unitsOf", "[I", false)
  | 3 => ("SeriesVault$Journal", "blocksOf", "[I", false)
  | 4 => ("SeriesVault$Journal", "firsts", "[J", false)
  | 5 => ("SeriesVault$Journal", "seconds", "[J", false)
  | 6 => ("SeriesVault$Journal", "size", "I", false)
  | 7 => ("SeriesVault$Journal", "kept", "I", false)
  | 8 => ("SeriesVault$Journal", "units", "I", false)
  | 9 => ("SeriesVault$Journal", "blockLimit", "I", false)
  | 10 => ("SeriesVault$Journal", "block", "I", false)
  | 11 => ("SeriesVault$Journal", "fill", "I", false)
  | _ => ("SeriesVault$Journal", "changed", "Z", false)
def tyJ : Nat → FieldType := fun k => match k with
  | 0 => .array .int
  | 1 => .array .int
  | 2 => .array .int
  | 3 => .array .int
  | 4 => .array .long
  | 5 => .array .long
  | 6 => .int
  | 7 => .int
  | 8 => .int
  | 9 => .int
  | 10 => .int
  | 11 => .int
  | _ => .boolean
set_option maxRecDepth 100000 in
theorem nmJ : ∀ a, a < 13 → ∀ b, b < 13 → a ≠ b → (TJ a).2.1 ≠ (TJ b).2.1 := by decide +kernel
set_option maxRecDepth 100000 in
theorem tokJ : ∀ k, k < 13 → parseFieldDescriptor (TJ k).2.2.1 = some (tyJ k) := by decide +kernel
theorem layJ : ∀ w ∈ u_ws "SeriesVault$Journal" TJ 13, w ∈ aW := List.forall_mem_cons.mpr ⟨w18, List.forall_mem_cons.mpr ⟨w19, List.forall_mem_cons.mpr ⟨w20, List.forall_mem_cons.mpr ⟨w21, List.forall_mem_cons.mpr ⟨w22, List.forall_mem_cons.mpr ⟨w23, List.forall_mem_cons.mpr ⟨w24, List.forall_mem_cons.mpr ⟨w25, List.forall_mem_cons.mpr ⟨w26, List.forall_mem_cons.mpr ⟨w27, List.forall_mem_cons.mpr ⟨w28, List.forall_mem_cons.mpr ⟨w29, List.forall_mem_cons.mpr ⟨w30, fun _ h => absurd h List.not_mem_nil⟩⟩⟩⟩⟩⟩⟩⟩⟩⟩⟩⟩⟩
def TP : u_T := fun k => match k with
  | 0 => ("SeriesVault$Points", "owners", "[I", false)
  | 1 => ("SeriesVault$Points", "times", "[J", false)
  | 2 => ("SeriesVault$Points", "values", "[J", false)
  | _ => ("SeriesVault$Points", "size", "I", false)
def tyP : Nat → FieldType := fun k => match k with
  | 0 => .array .int
  | 1 => .array .long
  | 2 => .array .long
  | _ => .int
set_option maxRecDepth 100000 in
theorem nmP : ∀ a, a < 4 → ∀ b, b < 4 → a ≠ b → (TP a).2.1 ≠ (TP b).2.1 := by decide +kernel
set_option maxRecDepth 100000 in
theorem tokP : ∀ k, k < 4 → parseFieldDescriptor (TP k).2.2.1 = some (tyP k) := by decide +kernel
theorem layP : ∀ w ∈ u_ws "SeriesVault$Points" TP 4, w ∈ aW := List.forall_mem_cons.mpr ⟨w31, List.forall_mem_cons.mpr ⟨w32, List.forall_mem_cons.mpr ⟨w33, List.forall_mem_cons.mpr ⟨w34, fun _ h => absurd h List.not_mem_nil⟩⟩⟩⟩
def TH : u_T := fun k => match k with
  | 0 => ("SeriesVault$Shelf", "parcels", "[LSeriesVault$Parcel;", true)
  | 1 => ("SeriesVault$Shelf", "parcelCount", "I", false)
  | 2 => ("SeriesVault$Shelf", "scarOwners", "[I", true)
  | 3 => ("SeriesVault$Shelf", "scarFroms", "[J", true)
  | 4 => ("SeriesVault$Shelf", "scarTos", "[J", true)
  | 5 => ("SeriesVault$Shelf", "scarPoints", "[I", true)
  | 6 => ("SeriesVault$Shelf", "scarCount", "I", false)
  | 7 => ("SeriesVault$Shelf", "horizon", "J", false)
  | 8 => ("SeriesVault$Shelf", "seriesCount", "I", false)
  | 9 => ("SeriesVault$Shelf", "lasts", "[J", true)
  | _ => ("SeriesVault$Shelf", "catalogBlocks", "I", false)
def tyH : Nat → FieldType := fun k => match k with
  | 0 => .array (.object "SeriesVault$Parcel")
  | 1 => .int
  | 2 => .array .int
  | 3 => .array .long
  | 4 => .array .long
  | 5 => .array .int
  | 6 => .int
  | 7 => .long
  | 8 => .int
  | 9 => .array .long
  | _ => .int
set_option maxRecDepth 100000 in
theorem nmH : ∀ a, a < 11 → ∀ b, b < 11 → a ≠ b → (TH a).2.1 ≠ (TH b).2.1 := by decide +kernel
set_option maxRecDepth 100000 in
theorem tokH : ∀ k, k < 11 → parseFieldDescriptor (TH k).2.2.1 = some (tyH k) := by decide +kernel
theorem layH : ∀ w ∈ u_ws "SeriesVault$Shelf" TH 11, w ∈ aW := List.forall_mem_cons.mpr ⟨w35, List.forall_mem_cons.mpr ⟨w36, List.forall_mem_cons.mpr ⟨w37, List.forall_mem_cons.mpr ⟨w38, List.forall_mem_cons.mpr ⟨w39, List.forall_mem_cons.mpr ⟨w40, List.forall_mem_cons.mpr ⟨w41, List.forall_mem_cons.mpr ⟨w42, List.forall_mem_cons.mpr ⟨w43, List.forall_mem_cons.mpr ⟨w44, List.forall_mem_cons.mpr ⟨w45, fun _ h => absurd h List.not_mem_nil⟩⟩⟩⟩⟩⟩⟩⟩⟩⟩⟩
def TR : u_T := fun k => match k with
  | 0 => ("SeriesVault$SeriesReader", "nameStarts", "[I", true)
  | 1 => ("SeriesVault$SeriesReader", "nameEnds", "[I", true)
  | 2 => ("SeriesVault$SeriesReader", "valueEnds", "[I", true)
  | 3 => ("SeriesVault$SeriesReader", "labels", "I", false)
  | 4 => ("SeriesVault$SeriesReader", "faultCode", "I", false)
  | _ => ("SeriesVault$SeriesReader", "faultPlace", "I", false)
def tyR : Nat → FieldType := fun k => match k with
  | 0 => .array .int
  | 1 => .array .int
  | 2 => .array .int
  | 3 => .int
  | 4 => .int
  | _ => .int
set_option maxRecDepth 100000 in
theorem nmR : ∀ a, a < 6 → ∀ b, b < 6 → a ≠ b → (TR a).2.1 ≠ (TR b).2.1 := by decide +kernel
set_option maxRecDepth 100000 in
theorem tokR : ∀ k, k < 6 → parseFieldDescriptor (TR k).2.2.1 = some (tyR k) := by decide +kernel
theorem layR : ∀ w ∈ u_ws "SeriesVault$SeriesReader" TR 6, w ∈ aW := List.forall_mem_cons.mpr ⟨w46, List.forall_mem_cons.mpr ⟨w47, List.forall_mem_cons.mpr ⟨w48, List.forall_mem_cons.mpr ⟨w49, List.forall_mem_cons.mpr ⟨w50, List.forall_mem_cons.mpr ⟨w51, fun _ h => absurd h List.not_mem_nil⟩⟩⟩⟩⟩⟩
def TQ : u_T := fun k => match k with
  | 0 => ("SeriesVault$Question", "tape", "[B", false)
  | 1 => ("SeriesVault$Question", "length", "I", false)
  | 2 => ("SeriesVault$Question", "tokenKind", "I", false)
  | 3 => ("SeriesVault$Question", "tokenStart", "I", false)
  | 4 => ("SeriesVault$Question", "tokenEnd", "I", false)
  | 5 => ("SeriesVault$Question", "tokenNumber", "J", false)
  | 6 => ("SeriesVault$Question", "faultCode", "I", false)
  | 7 => ("SeriesVault$Question", "faultPlace", "I", false)
  | _ => ("SeriesVault$Question", "steps", "Ljava/util/ArrayList;", true)
def tyQ : Nat → FieldType := fun k => match k with
  | 0 => .array .byte
  | 1 => .int
  | 2 => .int
  | 3 => .int
  | 4 => .int
  | 5 => .long
  | 6 => .int
  | 7 => .int
  | _ => .object "java/util/ArrayList"
set_option maxRecDepth 100000 in
theorem nmQ : ∀ a, a < 9 → ∀ b, b < 9 → a ≠ b → (TQ a).2.1 ≠ (TQ b).2.1 := by decide +kernel
set_option maxRecDepth 100000 in
theorem tokQ : ∀ k, k < 9 → parseFieldDescriptor (TQ k).2.2.1 = some (tyQ k) := by decide +kernel
theorem layQ : ∀ w ∈ u_ws "SeriesVault$Question" TQ 9, w ∈ aW := List.forall_mem_cons.mpr ⟨w52, List.forall_mem_cons.mpr ⟨w53, List.forall_mem_cons.mpr ⟨w54, List.forall_mem_cons.mpr ⟨w55, List.forall_mem_cons.mpr ⟨w56, List.forall_mem_cons.mpr ⟨w57, List.forall_mem_cons.mpr ⟨w58, List.forall_mem_cons.mpr ⟨w59, List.forall_mem_cons.mpr ⟨w60, fun _ h => absurd h List.not_mem_nil⟩⟩⟩⟩⟩⟩⟩⟩⟩
def TL : u_T := fun k => match k with
  | 0 => ("java/util/ArrayList", "elementData", "[Ljava/lang/Object;", false)
  | 1 => ("java/util/ArrayList", "size", "I", false)
  | _ => ("java/util/AbstractList", "modCount", "I", false)
def tyL : Nat → FieldType := fun k => match k with
  | 0 => .array (.object "java/lang/Object")
  | 1 => .int
  | _ => .int
set_option maxRecDepth 100000 in
theorem nmL : ∀ a, a < 3 → ∀ b, b < 3 → a ≠ b → (TL a).2.1 ≠ (TL b).2.1 := by decide +kernel
set_option maxRecDepth 100000 in
theorem tokL : ∀ k, k < 3 → parseFieldDescriptor (TL k).2.2.1 = some (tyL k) := by decide +kernel
theorem layL : ∀ w ∈ u_ws "java/util/ArrayList" TL 3, w ∈ aW := List.forall_mem_cons.mpr ⟨w61, List.forall_mem_cons.mpr ⟨w62, List.forall_mem_cons.mpr ⟨w63, fun _ h => absurd h List.not_mem_nil⟩⟩⟩
def TA : u_T := fun k => match k with
  | 0 => ("SeriesVault$Answers", "stack", "Ljava/util/ArrayList;", true)
  | 1 => ("SeriesVault$Answers", "depth", "I", false)
  | 2 => ("SeriesVault$Answers", "rowOf", "[I", true)
  | 3 => ("SeriesVault$Answers", "hasBefore", "[Z", true)
  | 4 => ("SeriesVault$Answers", "before", "[J", true)
  | 5 => ("SeriesVault$Answers", "bestTimes", "[J", false)
  | 6 => ("SeriesVault$Answers", "bestOwners", "[I", false)
  | 7 => ("SeriesVault$Answers", "from", "J", false)
  | 8 => ("SeriesVault$Answers", "width", "J", false)
  | _ => ("SeriesVault$Answers", "windows", "I", false)
def tyA : Nat → FieldType := fun k => match k with
  | 0 => .object "java/util/ArrayList"
  | 1 => .int
  | 2 => .array .int
  | 3 => .array .boolean
  | 4 => .array .long
  | 5 => .array .long
  | 6 => .array .int
  | 7 => .long
  | 8 => .long
  | _ => .int
set_option maxRecDepth 100000 in
theorem nmA : ∀ a, a < 10 → ∀ b, b < 10 → a ≠ b → (TA a).2.1 ≠ (TA b).2.1 := by decide +kernel
set_option maxRecDepth 100000 in
theorem tokA : ∀ k, k < 10 → parseFieldDescriptor (TA k).2.2.1 = some (tyA k) := by decide +kernel
theorem layA : ∀ w ∈ u_ws "SeriesVault$Answers" TA 10, w ∈ aW := List.forall_mem_cons.mpr ⟨w64, List.forall_mem_cons.mpr ⟨w65, List.forall_mem_cons.mpr ⟨w66, List.forall_mem_cons.mpr ⟨w67, List.forall_mem_cons.mpr ⟨w68, List.forall_mem_cons.mpr ⟨w69, List.forall_mem_cons.mpr ⟨w70, List.forall_mem_cons.mpr ⟨w71, List.forall_mem_cons.mpr ⟨w72, List.forall_mem_cons.mpr ⟨w73, fun _ h => absurd h List.not_mem_nil⟩⟩⟩⟩⟩⟩⟩⟩⟩⟩
def TT : u_T := fun k => match k with
  | 0 => ("SeriesVault$Table", "names", "[LSeriesVault$Word;", true)
  | 1 => ("SeriesVault$Table", "nameCount", "I", false)
  | 2 => ("SeriesVault$Table", "windows", "I", false)
  | 3 => ("SeriesVault$Table", "rowCount", "I", false)
  | 4 => ("SeriesVault$Table", "rowSeries", "[LSeriesVault$Series;", true)
  | 5 => ("SeriesVault$Table", "there", "[J", true)
  | _ => ("SeriesVault$Table", "cells", "[J", false)
def tyT : Nat → FieldType := fun k => match k with
  | 0 => .array (.object "SeriesVault$Word")
  | 1 => .int
  | 2 => .int
  | 3 => .int
  | 4 => .array (.object "SeriesVault$Series")
  | 5 => .array .long
  | _ => .array .long
set_option maxRecDepth 100000 in
theorem nmT : ∀ a, a < 7 → ∀ b, b < 7 → a ≠ b → (TT a).2.1 ≠ (TT b).2.1 := by decide +kernel
set_option maxRecDepth 100000 in
theorem tokT : ∀ k, k < 7 → parseFieldDescriptor (TT k).2.2.1 = some (tyT k) := by decide +kernel
theorem layT : ∀ w ∈ u_ws "SeriesVault$Table" TT 7, w ∈ aW := List.forall_mem_cons.mpr ⟨w74, List.forall_mem_cons.mpr ⟨w75, List.forall_mem_cons.mpr ⟨w76, List.forall_mem_cons.mpr ⟨w77, List.forall_mem_cons.mpr ⟨w78, List.forall_mem_cons.mpr ⟨w79, List.forall_mem_cons.mpr ⟨w80, fun _ h => absurd h List.not_mem_nil⟩⟩⟩⟩⟩⟩⟩
def TM : u_T := fun k => match k with
  | 0 => ("SeriesVaultModel", "code", "I", false)
  | 1 => ("SeriesVaultModel", "tape", "[B", true)
  | 2 => ("SeriesVaultModel", "length", "I", false)
  | 3 => ("SeriesVaultModel", "faultCode", "I", false)
  | 4 => ("SeriesVaultModel", "faultPlace", "I", false)
  | 5 => ("SeriesVaultModel", "blocks", "I", false)
  | 6 => ("SeriesVaultModel", "journal", "I", false)
  | 7 => ("SeriesVaultModel", "on", "Z", false)
  | 8 => ("SeriesVaultModel", "cutLeft", "I", false)
  | 9 => ("SeriesVaultModel", "written", "I", false)
  | 10 => ("SeriesVaultModel", "texts", "[B", true)
  | 11 => ("SeriesVaultModel", "textLengths", "[I", true)
  | 12 => ("SeriesVaultModel", "seriesCount", "I", false)
  | 13 => ("SeriesVaultModel", "lasts", "[J", true)
  | 14 => ("SeriesVaultModel", "baseSeries", "I", false)
  | 15 => ("SeriesVaultModel", "baseLasts", "[J", true)
  | 16 => ("SeriesVaultModel", "catalogBlocks", "I", false)
  | 17 => ("SeriesVaultModel", "pointSeries", "[I", true)
  | 18 => ("SeriesVaultModel", "pointTimes", "[J", true)
  | 19 => ("SeriesVaultModel", "pointValues", "[J", true)
  | 20 => ("SeriesVaultModel", "places", "[I", true)
  | 21 => ("SeriesVaultModel", "hidden", "[I", true)
  | 22 => ("SeriesVaultModel", "baseHidden", "[I", true)
  | 23 => ("SeriesVaultModel", "points", "I", false)
  | 24 => ("SeriesVaultModel", "horizon", "J", false)
  | 25 => ("SeriesVaultModel", "baseHorizon", "J", false)
  | 26 => ("SeriesVaultModel", "parcels", "[I", true)
  | 27 => ("SeriesVaultModel", "parcelBlocks", "[I", true)
  | 28 => ("SeriesVaultModel", "parcelCount", "I", false)
  | 29 => ("SeriesVaultModel", "parcelNumber", "I", false)
  | 30 => ("SeriesVaultModel", "deletes", "I", false)
  | 31 => ("SeriesVaultModel", "kinds", "[B", true)
  | 32 => ("SeriesVaultModel", "recordSeries", "[I", true)
  | 33 => ("SeriesVaultModel", "firsts", "[J", true)
  | 34 => ("SeriesVaultModel", "seconds", "[J", true)
  | 35 => ("SeriesVaultModel", "units", "[I", true)
  | 36 => ("SeriesVaultModel", "recordBlocks", "[I", true)
  | 37 => ("SeriesVaultModel", "records", "I", false)
  | 38 => ("SeriesVaultModel", "kept", "I", false)
  | 39 => ("SeriesVaultModel", "block", "I", false)
  | 40 => ("SeriesVaultModel", "used", "I", false)
  | 41 => ("SeriesVaultModel", "fresh", "Z", false)
  | 42 => ("SeriesVaultModel", "labels", "[I", true)
  | 43 => ("SeriesVaultModel", "labelCount", "I", false)
  | 44 => ("SeriesVaultModel", "kind", "I", false)
  | 45 => ("SeriesVaultModel", "from", "I", false)
  | 46 => ("SeriesVaultModel", "to", "I", false)
  | 47 => ("SeriesVaultModel", "amount", "J", false)
  | 48 => ("SeriesVaultModel", "tableNames", "[I", true)
  | 49 => ("SeriesVaultModel", "nameFroms", "[I", true)
  | 50 => ("SeriesVaultModel", "nameLengths", "[I", true)
  | 51 => ("SeriesVaultModel", "tableRows", "[I", true)
  | 52 => ("SeriesVaultModel", "rowSeries", "[I", true)
  | 53 => ("SeriesVaultModel", "cells", "[J", true)
  | 54 => ("SeriesVaultModel", "isCell", "[Z", true)
  | 55 => ("SeriesVaultModel", "pile", "I", false)
  | 56 => ("SeriesVaultModel", "works", "Z", false)
  | 57 => ("SeriesVaultModel", "windowsFrom", "J", false)
  | 58 => ("SeriesVaultModel", "width", "J", false)
  | 59 => ("SeriesVaultModel", "windows", "I", false)
  | 60 => ("SeriesVaultModel", "valueLength", "I", false)
  | 61 => ("SeriesVaultModel", "rowOf", "[I", true)
  | 62 => ("SeriesVaultModel", "keyTimes", "[J", true)
  | 63 => ("SeriesVaultModel", "keySeries", "[I", true)
  | 64 => ("SeriesVaultModel", "befores", "[J", true)
  | 65 => ("SeriesVaultModel", "hasBefore", "[Z", true)
  | 66 => ("SeriesVaultModel", "signs", "[I", true)
  | 67 => ("SeriesVaultModel", "signPlaces", "[I", true)
  | 68 => ("SeriesVaultModel", "signCount", "I", false)
  | 69 => ("SeriesVaultModel", "open", "I", false)
  | 70 => ("SeriesVaultModel", "wants", "Z", false)
  | 71 => ("SeriesVaultModel", "isTable", "Z", false)
  | 72 => ("SeriesVaultModel", "names", "I", false)
  | 73 => ("SeriesVaultModel", "rows", "I", false)
  | 74 => ("SeriesVaultModel", "shownWindows", "I", false)
  | 75 => ("SeriesVaultModel", "rowTexts", "[B", true)
  | 76 => ("SeriesVaultModel", "rowLengths", "[I", true)
  | 77 => ("SeriesVaultModel", "shown", "[J", true)
  | _ => ("SeriesVaultModel", "isShown", "[Z", true)
def tyM : Nat → FieldType := fun k => match k with
  | 0 => .int
  | 1 => .array .byte
  | 2 => .int
  | 3 => .int
  | 4 => .int
  | 5 => .int
  | 6 => .int
  | 7 => .boolean
  | 8 => .int
  | 9 => .int
  | 10 => .array .byte
  | 11 => .array .int
  | 12 => .int
  | 13 => .array .long
  | 14 => .int
  | 15 => .array .long
  | 16 => .int
  | 17 => .array .int
  | 18 => .array .long
  | 19 => .array .long
  | 20 => .array .int
  | 21 => .array .int
  | 22 => .array .int
  | 23 => .int
  | 24 => .long
  | 25 => .long
  | 26 => .array .int
  | 27 => .array .int
  | 28 => .int
  | 29 => .int
  | 30 => .int
  | 31 => .array .byte
  | 32 => .array .int
  | 33 => .array .long
  | 34 => .array .long
  | 35 => .array .int
  | 36 => .array .int
  | 37 => .int
  | 38 => .int
  | 39 => .int
  | 40 => .int
  | 41 => .boolean
  | 42 => .array .int
  | 43 => .int
  | 44 => .int
  | 45 => .int
  | 46 => .int
  | 47 => .long
  | 48 => .array .int
  | 49 => .array .int
  | 50 => .array .int
  | 51 => .array .int
  | 52 => .array .int
  | 53 => .array .long
  | 54 => .array .boolean
  | 55 => .int
  | 56 => .boolean
  | 57 => .long
  | 58 => .long
  | 59 => .int
  | 60 => .int
  | 61 => .array .int
  | 62 => .array .long
  | 63 => .array .int
  | 64 => .array .long
  | 65 => .array .boolean
  | 66 => .array .int
  | 67 => .array .int
  | 68 => .int
  | 69 => .int
  | 70 => .boolean
  | 71 => .boolean
  | 72 => .int
  | 73 => .int
  | 74 => .int
  | 75 => .array .byte
  | 76 => .array .int
  | 77 => .array .long
  | _ => .array .boolean
set_option maxRecDepth 100000 in
theorem nmM : ∀ a, a < 79 → ∀ b, b < 79 → a ≠ b → (TM a).2.1 ≠ (TM b).2.1 := by decide +kernel
set_option maxRecDepth 100000 in
theorem tokM : ∀ k, k < 79 → parseFieldDescriptor (TM k).2.2.1 = some (tyM k) := by decide +kernel
theorem layM : ∀ w ∈ u_ws "SeriesVaultModel" TM 79, w ∈ aW := List.forall_mem_cons.mpr ⟨w81, List.forall_mem_cons.mpr ⟨w82, List.forall_mem_cons.mpr ⟨w83, List.forall_mem_cons.mpr ⟨w84, List.forall_mem_cons.mpr ⟨w85, List.forall_mem_cons.mpr ⟨w86, List.forall_mem_cons.mpr ⟨w87, List.forall_mem_cons.mpr ⟨w88, List.forall_mem_cons.mpr ⟨w89, List.forall_mem_cons.mpr ⟨w90, List.forall_mem_cons.mpr ⟨w91, List.forall_mem_cons.mpr ⟨w92, List.forall_mem_cons.mpr ⟨w93, List.forall_mem_cons.mpr ⟨w94, List.forall_mem_cons.mpr ⟨w95, List.forall_mem_cons.mpr ⟨w96, List.forall_mem_cons.mpr ⟨w97, List.forall_mem_cons.mpr ⟨w98, List.forall_mem_cons.mpr ⟨w99, List.forall_mem_cons.mpr ⟨w100, List.forall_mem_cons.mpr ⟨w101, List.forall_mem_cons.mpr ⟨w102, List.forall_mem_cons.mpr ⟨w103, List.forall_mem_cons.mpr ⟨w104, List.forall_mem_cons.mpr ⟨w105, List.forall_mem_cons.mpr ⟨w106, List.forall_mem_cons.mpr ⟨w107, List.forall_mem_cons.mpr ⟨w108, List.forall_mem_cons.mpr ⟨w109, List.forall_mem_cons.mpr ⟨w110, List.forall_mem_cons.mpr ⟨w111, List.forall_mem_cons.mpr ⟨w112, List.forall_mem_cons.mpr ⟨w113, List.forall_mem_cons.mpr ⟨w114, List.forall_mem_cons.mpr ⟨w115, List.forall_mem_cons.mpr ⟨w116, List.forall_mem_cons.mpr ⟨w117, List.forall_mem_cons.mpr ⟨w118, List.forall_mem_cons.mpr ⟨w119, List.forall_mem_cons.mpr ⟨w120, List.forall_mem_cons.mpr ⟨w121, List.forall_mem_cons.mpr ⟨w122, List.forall_mem_cons.mpr ⟨w123, List.forall_mem_cons.mpr ⟨w124, List.forall_mem_cons.mpr ⟨w125, List.forall_mem_cons.mpr ⟨w126, List.forall_mem_cons.mpr ⟨w127, List.forall_mem_cons.mpr ⟨w128, List.forall_mem_cons.mpr ⟨w129, List.forall_mem_cons.mpr ⟨w130, List.forall_mem_cons.mpr ⟨w131, List.forall_mem_cons.mpr ⟨w132, List.forall_mem_cons.mpr ⟨w133, List.forall_mem_cons.mpr ⟨w134, List.forall_mem_cons.mpr ⟨w135, List.forall_mem_cons.mpr ⟨w136, List.forall_mem_cons.mpr ⟨w137, List.forall_mem_cons.mpr ⟨w138, List.forall_mem_cons.mpr ⟨w139, List.forall_mem_cons.mpr ⟨w140, List.forall_mem_cons.mpr ⟨w141, List.forall_mem_cons.mpr ⟨w142, List.forall_mem_cons.mpr ⟨w143, List.forall_mem_cons.mpr ⟨w144, List.forall_mem_cons.mpr ⟨w145, List.forall_mem_cons.mpr ⟨w146, List.forall_mem_cons.mpr ⟨w147, List.forall_mem_cons.mpr ⟨w148, List.forall_mem_cons.mpr ⟨w149, List.forall_mem_cons.mpr ⟨w150, List.forall_mem_cons.mpr ⟨w151, List.forall_mem_cons.mpr ⟨w152, List.forall_mem_cons.mpr ⟨w153, List.forall_mem_cons.mpr ⟨w154, List.forall_mem_cons.mpr ⟨w155, List.forall_mem_cons.mpr ⟨w156, List.forall_mem_cons.mpr ⟨w157, List.forall_mem_cons.mpr ⟨w158, List.forall_mem_cons.mpr ⟨w159, fun _ h => absurd h List.not_mem_nil⟩⟩⟩⟩⟩⟩⟩⟩⟩⟩⟩⟩⟩⟩⟩⟩⟩⟩⟩⟩⟩⟩⟩⟩⟩⟩⟩⟩⟩⟩⟩⟩⟩⟩⟩⟩⟩⟩⟩⟩⟩⟩⟩⟩⟩⟩⟩⟩⟩⟩⟩⟩⟩⟩⟩⟩⟩⟩⟩⟩⟩⟩⟩⟩⟩⟩⟩⟩⟩⟩⟩⟩⟩⟩⟩⟩⟩⟩⟩
def TW : u_T := fun k => match k with
  | _ => ("SeriesVault$Word", "bytes", "[B", true)
def tyW : Nat → FieldType := fun k => match k with
  | _ => .array .byte
set_option maxRecDepth 100000 in
theorem nmW : ∀ a, a < 1 → ∀ b, b < 1 → a ≠ b → (TW a).2.1 ≠ (TW b).2.1 := by decide +kernel
set_option maxRecDepth 100000 in
theorem tokW : ∀ k, k < 1 → parseFieldDescriptor (TW k).2.2.1 = some (tyW k) := by decide +kernel
theorem layW : ∀ w ∈ u_ws "SeriesVault$Word" TW 1, w ∈ aW := List.forall_mem_cons.mpr ⟨w160, fun _ h => absurd h List.not_mem_nil⟩
def TS : u_T := fun k => match k with
  | 0 => ("SeriesVault$Series", "names", "[LSeriesVault$Word;", true)
  | 1 => ("SeriesVault$Series", "values", "[LSeriesVault$Word;", true)
  | 2 => ("SeriesVault$Series", "nothing", "LSeriesVault$Word;", true)
  | _ => ("SeriesVault$Series", "text", "LSeriesVault$Word;", true)
def tyS : Nat → FieldType := fun k => match k with
  | 0 => .array (.object "SeriesVault$Word")
  | 1 => .array (.object "SeriesVault$Word")
  | 2 => .object "SeriesVault$Word"
  | _ => .object "SeriesVault$Word"
set_option maxRecDepth 100000 in
theorem nmS : ∀ a, a < 4 → ∀ b, b < 4 → a ≠ b → (TS a).2.1 ≠ (TS b).2.1 := by decide +kernel
set_option maxRecDepth 100000 in
theorem tokS : ∀ k, k < 4 → parseFieldDescriptor (TS k).2.2.1 = some (tyS k) := by decide +kernel
theorem layS : ∀ w ∈ u_ws "SeriesVault$Series" TS 4, w ∈ aW := List.forall_mem_cons.mpr ⟨w161, List.forall_mem_cons.mpr ⟨w162, List.forall_mem_cons.mpr ⟨w163, List.forall_mem_cons.mpr ⟨w164, fun _ h => absurd h List.not_mem_nil⟩⟩⟩⟩
def TC : u_T := fun k => match k with
  | 0 => ("SeriesVault$Parcel", "owners", "[I", true)
  | 1 => ("SeriesVault$Parcel", "times", "[J", true)
  | 2 => ("SeriesVault$Parcel", "values", "[J", true)
  | 3 => ("SeriesVault$Parcel", "size", "I", true)
  | 4 => ("SeriesVault$Parcel", "chunks", "I", true)
  | 5 => ("SeriesVault$Parcel", "bits", "I", true)
  | 6 => ("SeriesVault$Parcel", "blocks", "I", true)
  | _ => ("SeriesVault$Parcel", "newest", "J", true)
def tyC : Nat → FieldType := fun k => match k with
  | 0 => .array .int
  | 1 => .array .long
  | 2 => .array .long
  | 3 => .int
  | 4 => .int
  | 5 => .int
  | 6 => .int
  | _ => .long
set_option maxRecDepth 100000 in
theorem nmC : ∀ a, a < 8 → ∀ b, b < 8 → a ≠ b → (TC a).2.1 ≠ (TC b).2.1 := by decide +kernel
set_option maxRecDepth 100000 in
theorem tokC : ∀ k, k < 8 → parseFieldDescriptor (TC k).2.2.1 = some (tyC k) := by decide +kernel
theorem layC : ∀ w ∈ u_ws "SeriesVault$Parcel" TC 8, w ∈ aW := List.forall_mem_cons.mpr ⟨w165, List.forall_mem_cons.mpr ⟨w166, List.forall_mem_cons.mpr ⟨w167, List.forall_mem_cons.mpr ⟨w168, List.forall_mem_cons.mpr ⟨w169, List.forall_mem_cons.mpr ⟨w170, List.forall_mem_cons.mpr ⟨w171, List.forall_mem_cons.mpr ⟨w172, fun _ h => absurd h List.not_mem_nil⟩⟩⟩⟩⟩⟩⟩⟩
def TE : u_T := fun k => match k with
  | 0 => ("SeriesVault$Step", "kind", "I", true)
  | 1 => ("SeriesVault$Step", "place", "I", true)
  | 2 => ("SeriesVault$Step", "number", "J", true)
  | 3 => ("SeriesVault$Step", "names", "[LSeriesVault$Word;", true)
  | 4 => ("SeriesVault$Step", "nameCount", "I", false)
  | 5 => ("SeriesVault$Step", "matchNames", "Ljava/util/ArrayList;", true)
  | 6 => ("SeriesVault$Step", "matchTexts", "Ljava/util/ArrayList;", true)
  | _ => ("SeriesVault$Step", "matchKinds", "[I", false)
def tyE : Nat → FieldType := fun k => match k with
  | 0 => .int
  | 1 => .int
  | 2 => .long
  | 3 => .array (.object "SeriesVault$Word")
  | 4 => .int
  | 5 => .object "java/util/ArrayList"
  | 6 => .object "java/util/ArrayList"
  | _ => .array .int
set_option maxRecDepth 100000 in
theorem nmE : ∀ a, a < 8 → ∀ b, b < 8 → a ≠ b → (TE a).2.1 ≠ (TE b).2.1 := by decide +kernel
set_option maxRecDepth 100000 in
theorem tokE : ∀ k, k < 8 → parseFieldDescriptor (TE k).2.2.1 = some (tyE k) := by decide +kernel
theorem layE : ∀ w ∈ u_ws "SeriesVault$Step" TE 8, w ∈ aW := List.forall_mem_cons.mpr ⟨w173, List.forall_mem_cons.mpr ⟨w174, List.forall_mem_cons.mpr ⟨w175, List.forall_mem_cons.mpr ⟨w176, List.forall_mem_cons.mpr ⟨w177, List.forall_mem_cons.mpr ⟨w178, List.forall_mem_cons.mpr ⟨w179, List.forall_mem_cons.mpr ⟨w180, fun _ h => absurd h List.not_mem_nil⟩⟩⟩⟩⟩⟩⟩⟩
abbrev vwCl : List vw_C := [("SeriesVault", TV, 18), ("SeriesVault$Journal", TJ, 13), ("SeriesVault$Points", TP, 4), ("SeriesVault$Shelf", TH, 11), ("SeriesVault$SeriesReader", TR, 6), ("SeriesVault$Question", TQ, 9), ("java/util/ArrayList", TL, 3), ("SeriesVault$Answers", TA, 10), ("SeriesVault$Table", TT, 7), ("SeriesVaultModel", TM, 79), ("SeriesVault$Word", TW, 1), ("SeriesVault$Series", TS, 4), ("SeriesVault$Parcel", TC, 8), ("SeriesVault$Step", TE, 8)]
abbrev arT (dA : Nat → ClassId) : List (ClassId × FieldType) := [(dA 0, .byte), (dA 1, .int), (dA 2, .long), (dA 3, .boolean), (dA 4, .object "SeriesVault$Parcel"), (dA 5, .object "SeriesVault$Series"), (dA 6, .object "SeriesVault$Word"), (dA 7, .object "java/lang/Object")]
end
section
/-! Contracts' beginnings and ends, calls, throws: over the surroundings eV. -/
/-- a contract's start: the arguments, the world, the classes, the surroundings -/
def pC (D : va_G) (dA : Nat → ClassId) (av : List Value) (ws : va_W) (sz : Nat) : Array Value → State → Prop :=
  va_Pc av (fun U => U.heap.size = sz ∧ va_P D vwCl ws U.heap ∧ va_K D vwCl (arT dA) U ∧ va_D (fun _ => True) ws ∧ eV U)
theorem pC_blind {D : va_G} {dA : Nat → ClassId} {av : List Value} {ws : va_W} {sz : Nat} : FrameBlind (pC D dA av ws sz) := by
  intro a U g mk q
  obtain ⟨q0, q1, qP, qK, qD, qE⟩ := q
  exact ⟨q0, q1, qP, va_K.moved (u := U) (U := U.calling g mk a) (Vm.Alike.refl U.vm) qK, qD, eV.go (U := U.calling g mk a) qE (State.WarmedH.refl U) sK.rf⟩
/-- the world behind a method -/
def bW (D : va_G) (A : Nat → Prop) (ws : va_W) (t : State) : Prop := va_P D vwCl ws t.heap ∧ va_D A ws
section RW
variable {p : Program} {l : Launch} {e : Env} {R : Room} {s : State} {m : MethodId} {args : Array Value} {below : List Frame} {meth : Method} {c : Code} {H : Heap} {locs : List Loc} {cells slots : Nat} {Q : State → Prop}
variable {D : va_G} {dA : Nat → ClassId} {A : Nat → Prop} {cc : ByteArray} {pc : Nat} {ls : Array Slot} {rest st0 : List Value} {ws wc wr : va_W}
theorem code_1 {y : MethodName} {bytes : ByteArray} {maxL : Nat} {ret : Option FieldType} (hE : eV s) (hc : Cond.code y bytes maxL ret ∈ aW) : ∀ w ∈ [Cond.code y bytes maxL ret], ∀ (a' : Array Value) (U : State), s.WarmedH U.vm → w.before a' U = true := by
  intro w hw a' U hW
  have hw' : w = Cond.code y bytes maxL ret := by simpa using hw
  subst hw'
  exact word_at (args := #[]) hW (Or.inl rfl) (hE.1 _ hc)
theorem cB_1 {own : String} {index maxL mc ms n : Nat} {y : MethodName} {bytes : ByteArray} {ret : Option FieldType} {rm : Room} (hE : eV s) (hc : Cond.code y bytes maxL ret ∈ aW) (hl : Cond.methodLink own index y ∈ aW) (hini : Cond.initialized y.cls ∈ aW) (hrc : rm.cells = mc) (hrs : rm.slots = ms)
    (hd : (y.cls ≠ "java/lang/invoke/MethodHandle" ∧ y.cls ≠ "java/lang/invoke/VarHandle") ∧ (parseMethodDescriptor y.desc).map (fun d => d.parameters.length) = some n) (hR : rm.frames + 1 ≤ R.frames ∧ 8 + (maxL + 11) + rm.locals ≤ R.locals) :
    CallB R s args own index y bytes maxL ret [Cond.code y bytes maxL ret] rm mc ms n := by
  refine ⟨hrc, hrs, hR.1, hR.2, code_1 hE hc, List.mem_cons_self, hE.t hc rfl, hE.t hini rfl, hd.1, fun sig h => ?_, hE.t hl rfl⟩
  have h2 := hd.2
  rw [h] at h2
  exact (Option.some.inj h2).symm
theorem pre_1 {av : List Value} (hE : eV s) (hK : va_K D vwCl (arT dA) s) (hN : sK s.heap H) (hP : va_P D vwCl wc H) (hD : va_D A wc) : ∀ U : State, U.heap = H → s.WarmedH U.vm → pC D dA av wc H.size av.toArray U := by
  intro U hU hW
  exact ⟨rfl, by rw [hU], by rw [hU]; exact hP, hK.moved hW.alike, hD.weaken (fun _ _ _ _ => trivial), hE.go hW (by rw [hU]; exact hN)⟩
/-- invokevirtual of a method of the receiver's own class -/
theorem rnV {y : MethodName} {bytes : ByteArray} {maxL mc ms n index nL : Nat} {ret : Option FieldType} {rm : Room} {Qc : Array Value → State → Outcome → State → Prop} {free : Addr → Prop} {own C : String} {T : u_T} {N ci q0 : Nat} {fs : List Value} {b : Nat} {As : List Value}
    (hx : p.tables.exec = Jvm.exec) (hb : c.code = cc) (hml : c.maxLocals = nL) (hown : s.vm.findClass own = some m.cls) (hE : eV s) (hK : va_K D vwCl (arT dA) s) (hN : sK s.heap H) (hP : va_P D vwCl wc H) (hD : va_D A wc)
    (hM : Met l y [Cond.code y bytes maxL ret] rm (pC D dA (.ref b :: As) wc H.size) Qc mc ms free) (he : wc[q0]? = some (b, .inr (ci, fs))) (hcl : vwCl[ci]? = some (C, T, N))
    (hc : Cond.code y bytes maxL ret ∈ aW) (hl : Cond.methodLink own index y ∈ aW) (hi : Cond.instanceMethod y ∈ aW) (hse : Cond.selects C y y ∈ aW) (hini : Cond.initialized y.cls ∈ aW) (hrc : rm.cells = mc) (hrs : rm.slots = ms)
    (hd : (y.cls ≠ "java/lang/invoke/MethodHandle" ∧ y.cls ≠ "java/lang/invoke/VarHandle") ∧ (parseMethodDescriptor y.desc).map (fun d => d.parameters.length) = some n) (hR : rm.frames + 1 ≤ R.frames ∧ 8 + (maxL + 11) + rm.locals ≤ R.locals)
    (hn : As.length = n) (hsize : ls.size = nL) (hst : st0 = As.reverse ++ .ref b :: rest) (hW : (rest.map fun v => v.category).sum ≤ 8) (hdg : decode cc pc = .ok (.invokevirtual index, 3)) (hf : cells + mc ≤ R.cells ∧ slots + ms ≤ R.slots) :
    va_Run p l e R s m args below meth c H locs cells slots mc ms (F0 m pc ls st0) rest (Qc (Value.ref b :: As).toArray) free :=
  va_runV (Ts := []) ⟨hx, hb, hml, hown, fun _ h => nomatch h⟩ hM ⟨cB_1 hE hc hl hini hrc hrs hd hR, hE.t hi rfl, hE.t hse rfl⟩ ⟨pC_blind, va_recv hK hP hcl he, pre_1 hE hK hN hP hD⟩ rfl hn hsize hst (lv_room hW) hdg hf
/-- invokespecial of a constructor -/
theorem rnI {y : MethodName} {bytes : ByteArray} {maxL mc ms n index nL : Nat} {rm : Room} {Qc : Array Value → State → Outcome → State → Prop} {free : Addr → Prop} {own : String} {b : Nat} {As : List Value}
    (hx : p.tables.exec = Jvm.exec) (hb : c.code = cc) (hml : c.maxLocals = nL) (hown : s.vm.findClass own = some m.cls) (hE : eV s) (hK : va_K D vwCl (arT dA) s) (hN : sK s.heap H) (hP : va_P D vwCl wc H) (hD : va_D A wc)
    (hM : Met l y [Cond.code y bytes maxL none] rm (pC D dA (.ref b :: As) wc H.size) Qc mc ms free)
    (hc : Cond.code y bytes maxL none ∈ aW) (hl : Cond.methodLink own index y ∈ aW) (hi : Cond.instanceMethod y ∈ aW) (hini : Cond.initialized y.cls ∈ aW) (hy : y.name = "<init>") (hrc : rm.cells = mc) (hrs : rm.slots = ms)
    (hd : (y.cls ≠ "java/lang/invoke/MethodHandle" ∧ y.cls ≠ "java/lang/invoke/VarHandle") ∧ (parseMethodDescriptor y.desc).map (fun d => d.parameters.length) = some n) (hR : rm.frames + 1 ≤ R.frames ∧ 8 + (maxL + 11) + rm.locals ≤ R.locals)
    (hn : As.length = n) (hsize : ls.size = nL) (hst : st0 = As.reverse ++ .ref b :: rest) (hW : (rest.map fun v => v.category).sum ≤ 8) (hdg : decode cc pc = .ok (.invokespecial index, 3)) (hf : cells + mc ≤ R.cells ∧ slots + ms ≤ R.slots) :
    va_Run p l e R s m args below meth c H locs cells slots mc ms (F0 m pc ls st0) rest (Qc (Value.ref b :: As).toArray) free :=
  va_runI (Ts := []) ⟨hx, hb, hml, hown, fun _ h => nomatch h⟩ hM ⟨cB_1 hE hc hl hini hrc hrs hd hR, hy, hE.t hi rfl⟩ ⟨pC_blind, pre_1 hE hK hN hP hD⟩ rfl hn hsize hst (lv_room hW) hdg hf
/-- invokestatic -/
theorem rnS {y : MethodName} {bytes : ByteArray} {maxL mc ms n index nL : Nat} {ret : Option FieldType} {rm : Room} {Qc : Array Value → State → Outcome → State → Prop} {free : Addr → Prop} {own : String} {As : List Value}
    (hx : p.tables.exec = Jvm.exec) (hb : c.code = cc) (hml : c.maxLocals = nL) (hown : s.vm.findClass own = some m.cls) (hE : eV s) (hK : va_K D vwCl (arT dA) s) (hN : sK s.heap H) (hP : va_P D vwCl wc H) (hD : va_D A wc)
    (hM : Met l y [Cond.code y bytes maxL ret] rm (pC D dA As wc H.size) Qc mc ms free)
    (hc : Cond.code y bytes maxL ret ∈ aW) (hl : Cond.methodLink own index y ∈ aW) (hstat : Cond.static y ∈ aW) (hini : Cond.initialized y.cls ∈ aW) (hrc : rm.cells = mc) (hrs : rm.slots = ms)
    (hd : (y.cls ≠ "java/lang/invoke/MethodHandle" ∧ y.cls ≠ "java/lang/invoke/VarHandle") ∧ (parseMethodDescriptor y.desc).map (fun d => d.parameters.length) = some n) (hR : rm.frames + 1 ≤ R.frames ∧ 8 + (maxL + 11) + rm.locals ≤ R.locals)
    (hn : As.length = n) (hsize : ls.size = nL) (hst : st0 = As.reverse ++ rest) (hW : (rest.map fun v => v.category).sum ≤ 8) (hdg : decode cc pc = .ok (.invokestatic index, 3)) (hf : cells + mc ≤ R.cells ∧ slots + ms ≤ R.slots) :
    va_Run p l e R s m args below meth c H locs cells slots mc ms (F0 m pc ls st0) rest (Qc As.toArray) free :=
  va_runS (Ts := []) ⟨hx, hb, hml, hown, fun _ h => nomatch h⟩ hM ⟨cB_1 hE hc hl hini hrc hrs hd hR, hE.t hstat rfl⟩ ⟨pC_blind, pre_1 hE hK hN hP hD⟩ rfl hn hsize hst (lv_room hW) hdg hf
/-- behind a void call: the callee's world beside the rest -/
theorem jnV {mc ms : Nat} {S : Type} {post : S → Prop} {w1 : S → va_W} {a : Array Value} (hr : va_Run p l e R s m args below meth c H locs cells slots mc ms (F0 m pc ls st0) rest (va_Qv post (fun u t => bW D (va_A wc H.size) (w1 u) t) (va_A wc H.size) a) (va_A wc H.size))
    (hP : va_P D vwCl ws H) (hD : va_D A ws) (hS : va_S A s.heap H locs) (hA : ∀ q, s.heap.size ≤ q → A q) (isC isR : List Nat) (hC : isC.map (fun i => ws[i]?) = wc.map some) (hR : isR.map (fun i => ws[i]?) = wr.map some) (hn : va_nd isR = true) (hdis : ∀ i ∈ isR, i ∉ isC)
    (kk : ∀ (u : S) (H1 : Heap) (locs1 : List Loc), post u → va_P D vwCl (wr ++ w1 u) H1 → va_D A (wr ++ w1 u) → va_S A s.heap H1 locs1 → W p l e R s m args below meth c H1 locs1 (cells + mc) (slots + ms) Q (F0 m (pc + 3) ls rest)) : W p l e R s m args below meth c H locs cells slots Q (F0 m pc ls st0) := by
  have hF := va_free hD hS hA isC hC
  refine va_callv hr hS (fun q _ h => hF q h) hF (fun u t H1 locs1 ht hvm hp hB hz hk hS1 => ?_)
  have hP1 := hB.1
  rw [ht] at hP1
  obtain ⟨g1, g2⟩ := va_join hP hD isC isR hC hR hn hdis hk hF hP1 hB.2
  exact kk u H1 locs1 hp g1 g2 hS1
/-- .. a call that answers an int -/
theorem jnI {mc ms : Nat} {S : Type} {post : Int32 → S → Prop} {w1 : S → va_W} {a : Array Value} (hr : va_Run p l e R s m args below meth c H locs cells slots mc ms (F0 m pc ls st0) rest (va_Qi post (fun u t => bW D (va_A wc H.size) (w1 u) t) (va_A wc H.size) a) (va_A wc H.size))
    (hP : va_P D vwCl ws H) (hD : va_D A ws) (hS : va_S A s.heap H locs) (hA : ∀ q, s.heap.size ≤ q → A q) (isC isR : List Nat) (hC : isC.map (fun i => ws[i]?) = wc.map some) (hR : isR.map (fun i => ws[i]?) = wr.map some) (hn : va_nd isR = true) (hdis : ∀ i ∈ isR, i ∉ isC)
    (kk : ∀ (r : Int32) (u : S) (H1 : Heap) (locs1 : List Loc), post r u → va_P D vwCl (wr ++ w1 u) H1 → va_D A (wr ++ w1 u) → va_S A s.heap H1 locs1 → W p l e R s m args below meth c H1 locs1 (cells + mc) (slots + ms) Q (F0 m (pc + 3) ls (.int r :: rest))) : W p l e R s m args below meth c H locs cells slots Q (F0 m pc ls st0) := by
  have hF := va_free hD hS hA isC hC
  refine va_calli hr hS (fun q _ h => hF q h) hF (fun r u t H1 locs1 ht hvm hp hB hz hk hS1 => ?_)
  have hP1 := hB.1
  rw [ht] at hP1
  obtain ⟨g1, g2⟩ := va_join hP hD isC isR hC hR hn hdis hk hF hP1 hB.2
  exact kk r u H1 locs1 hp g1 g2 hS1
/-- .. a long -/
theorem jnL {mc ms : Nat} {S : Type} {post : Int64 → S → Prop} {w1 : S → va_W} {a : Array Value} (hr : va_Run p l e R s m args below meth c H locs cells slots mc ms (F0 m pc ls st0) rest (va_Ql post (fun u t => bW D (va_A wc H.size) (w1 u) t) (va_A wc H.size) a) (va_A wc H.size))
    (hP : va_P D vwCl ws H) (hD : va_D A ws) (hS : va_S A s.heap H locs) (hA : ∀ q, s.heap.size ≤ q → A q) (isC isR : List Nat) (hC : isC.map (fun i => ws[i]?) = wc.map some) (hR : isR.map (fun i => ws[i]?) = wr.map some) (hn : va_nd isR = true) (hdis : ∀ i ∈ isR, i ∉ isC)
    (kk : ∀ (r : Int64) (u : S) (H1 : Heap) (locs1 : List Loc), post r u → va_P D vwCl (wr ++ w1 u) H1 → va_D A (wr ++ w1 u) → va_S A s.heap H1 locs1 → W p l e R s m args below meth c H1 locs1 (cells + mc) (slots + ms) Q (F0 m (pc + 3) ls (.long r :: rest))) : W p l e R s m args below meth c H locs cells slots Q (F0 m pc ls st0) := by
  have hF := va_free hD hS hA isC hC
  refine va_calll hr hS (fun q _ h => hF q h) hF (fun r u t H1 locs1 ht hvm hp hB hz hk hS1 => ?_)
  have hP1 := hB.1
  rw [ht] at hP1
  obtain ⟨g1, g2⟩ := va_join hP hD isC isR hC hR hn hdis hk hF hP1 hB.2
  exact kk r u H1 locs1 hp g1 g2 hS1
/-- .. a reference to a cell that comes with the world -/
theorem jnR {mc ms : Nat} {S : Type} {post : S → Prop} {w1 : S → Nat → va_W} {a : Array Value} (hr : va_Run p l e R s m args below meth c H locs cells slots mc ms (F0 m pc ls st0) rest (va_Qr post (fun u ra t => bW D (va_A wc H.size) (w1 u ra) t) (va_A wc H.size) a) (va_A wc H.size))
    (hP : va_P D vwCl ws H) (hD : va_D A ws) (hS : va_S A s.heap H locs) (hA : ∀ q, s.heap.size ≤ q → A q) (isC isR : List Nat) (hC : isC.map (fun i => ws[i]?) = wc.map some) (hR : isR.map (fun i => ws[i]?) = wr.map some) (hn : va_nd isR = true) (hdis : ∀ i ∈ isR, i ∉ isC)
    (kk : ∀ (u : S) (ra : Nat) (H1 : Heap) (locs1 : List Loc), post u → va_P D vwCl (wr ++ w1 u ra) H1 → va_D A (wr ++ w1 u ra) → va_S A s.heap H1 locs1 → W p l e R s m args below meth c H1 locs1 (cells + mc) (slots + ms) Q (F0 m (pc + 3) ls (.ref ra :: rest))) : W p l e R s m args below meth c H locs cells slots Q (F0 m pc ls st0) := by
  have hF := va_free hD hS hA isC hC
  refine va_callr hr hS (fun q _ h => hF q h) hF (fun u ra t H1 locs1 ht hvm hp hB hz hk hS1 => ?_)
  have hP1 := hB.1
  rw [ht] at hP1
  obtain ⟨g1, g2⟩ := va_join hP hD isC isR hC hR hn hdis hk hF hP1 hB.2
  exact kk u ra H1 locs1 hp g1 g2 hS1
/-- the number of an array class is the table's -/
theorem ra_one {U : State} {c1 c2 : ClassId} {ty : FieldType} (h1 : va_RA U c1 ty) (h2 : va_RA U c2 ty) : c1 = c2 := by
  cases ty with
  | object C =>
    obtain ⟨_, _, -, -, -, g1⟩ := h1
    obtain ⟨_, _, -, -, -, g2⟩ := h2
    exact Option.some.inj (g1.symm.trans g2)
  | _ => exact Option.some.inj (Eq.trans (Eq.symm h1) h2)
/-- newarray, its class by the table -/
theorem nwA (hexec : p.tables.exec = Jvm.exec) (hb : c.code = cc) {atype : ArrayType} (hE : eV s) {ty : FieldType} (hty : newarray.typeOf atype = ty) (harr : Cond.arrayClass ty ∈ aW) (hK : va_K D vwCl (arT dA) s) (hP : va_P D vwCl ws H) (hD : va_D A ws) (hS : va_S A s.heap H locs) (hA : ∀ q, s.heap.size ≤ q → A q)
    (t0 : Nat) {cA0 : ClassId} (ht0 : (arT dA)[t0]? = some (cA0, ty)) {n : Int32} {N' : Nat} {a0 : vp_A} (ha : ∀ cA : ClassId, vp_cell cA a0 = arrV cA N' (fun _ => defaultValue ty)) (hn : ¬ n < 0) (hN : n.toNatClampNeg = N') (hbytes : N' * componentBytes ty ≤ 536870912) (hcells : cells + 1 ≤ R.cells) (hslots : slots + N' ≤ R.slots) (hdg : decode cc pc = .ok (.newarray atype, 2))
    (kk : ∀ (q : Nat) (H1 : Heap), va_P D vwCl (ws ++ [(q, .inl (cA0, a0))]) H1 → va_D A (ws ++ [(q, .inl (cA0, a0))]) → va_S A s.heap H1 locs →
      W p l e R s m args below meth c H1 locs (cells + 1) (slots + N') Q (F0 m (pc + 2) ls (.ref q :: rest))) : W p l e R s m args below meth c H locs cells slots Q (F0 m pc ls (.int n :: rest)) := by
  subst hty
  refine va_newa hexec hb (hE.a harr) rfl hK hP hD hS hA ha hn hN hbytes hcells hslots hdg (fun q cA H1 hK1 hP1 hD1 hS1 => ?_)
  have e1 : cA = cA0 := ra_one (hK1.2 8 _ rfl).2 (hK.2 t0 _ ht0).2
  subst e1
  exact kk q H1 hP1 hD1 hS1
/-- anewarray -/
theorem nwQ (hexec : p.tables.exec = Jvm.exec) (hb : c.code = cc) {own C : String} {index : Nat} (hown : s.vm.findClass own = some m.cls) (hE : eV s) (hclink : Cond.classLink own index C ∈ aW) (hover : Cond.arrayOver (.object C) ∈ aW) (hK : va_K D vwCl (arT dA) s) (hP : va_P D vwCl ws H) (hD : va_D A ws) (hS : va_S A s.heap H locs) (hA : ∀ q, s.heap.size ≤ q → A q)
    (t0 : Nat) {cA0 : ClassId} (ht0 : (arT dA)[t0]? = some (cA0, .object C)) {n : Int32} {N' : Nat} (hn : ¬ n < 0) (hN : n.toNatClampNeg = N') (hbytes : N' * 4 ≤ 536870912) (hcells : cells + 1 ≤ R.cells) (hslots : slots + N' ≤ R.slots) (hdg : decode cc pc = .ok (.anewarray index, 3))
    (kk : ∀ (q : Nat) (H1 : Heap), va_P D vwCl (ws ++ [(q, .inl (cA0, N', .inr (.inr (.inr (.inr (fun _ => none))))))]) H1 → va_D A (ws ++ [(q, .inl (cA0, N', .inr (.inr (.inr (.inr (fun _ => none))))))]) → va_S A s.heap H1 locs →
      W p l e R s m args below meth c H1 locs (cells + 1) (slots + N') Q (F0 m (pc + 3) ls (.ref q :: rest))) : W p l e R s m args below meth c H locs cells slots Q (F0 m pc ls (.int n :: rest)) := by
  refine va_newq hexec hb hown (hE.t hclink rfl) (hE.1 _ hover) hK hP hD hS hA hn hN hbytes hcells hslots hdg (fun q cA H1 hK1 hP1 hD1 hS1 => ?_)
  have e1 : cA = cA0 := ra_one (hK1.2 8 _ rfl).2 (hK.2 t0 _ ht0).2
  subst e1
  exact kk q H1 hP1 hD1 hS1
end RW
end
section
/-! Methods that throw: contracts, the throw itself, the way out, the catch. -/
/-- what a body that throws an E owes at its end -/
def xQ (below : List Frame) (E : String) (B : State → State → Prop) (s : State) (mc ms : Nat) (free : Addr → Prop) : State → Prop := fun t =>
  ∃ (x : Addr) (ce : Cell), t.status = .running ∧ Ended t below (.threw x) ∧ t.heap[x]? = some ce ∧ ce.vm = .none ∧ s.vm.findClass E = some ce.cls ∧ s.WarmedH t.vm ∧ (∃ L, s.sameButNew ({ t with vm := s.vm } : State) L mc ms ∧ ∀ z ∈ L, free z.base) ∧ B s t
/-- a method that throws an E -/
def mX (l : Launch) (y : MethodName) (ws : List Cond) (rm : Room) (Pc : Array Value → State → Prop) (E : String) (B : State → State → Prop) (mc ms : Nat) (free : Addr → Prop) : Prop :=
  MetFree l y (headSpec ws rm) Pc (fun _ _ _ _ _ => True) (fun _ st o t => ∃ (x : Addr) (ce : Cell), o = .threw x ∧ t.heap[x]? = some ce ∧ ce.vm = .none ∧ st.vm.findClass E = some ce.cls ∧ st.WarmedH t.vm ∧ (∃ L, st.sameButNew ({ t with vm := st.vm } : State) L mc ms ∧ ∀ z ∈ L, free z.base) ∧ B st t)
theorem mX.ofW {l : Launch} {y : MethodName} {ws ws' : List Cond} {rm : Room} {Pc : Array Value → State → Prop} {E : String} {B : State → State → Prop} {mc ms : Nat} {free : Addr → Prop} {cc : ByteArray} {maxL : Nat} {ret : Option FieldType}
    (hy : plainName y.cls = true) (hw : ws = Cond.code y cc maxL ret :: ws')
    (body : ∀ p e s m args below meth c s₁, BodyLoose p l y (headSpec ws rm) cc maxL ret e s m args below meth c s₁ → c.maxLocals = maxL → (∀ x ∈ c.exceptionTable.toList, False) → Pc args s →
      W p l e (headSpec ws rm).room s m args below meth c s.heap [] 0 0 (xQ below E B s mc ms free) (entryFrame m args maxL)) : mX l y ws rm Pc E B mc ms free := by
  refine MetFree.of_bodyS (code := cc) (maxLocals := maxL) (ret := ret) hy ?_ ?_
  · intro args s m h hn
    obtain ⟨meth, c, h1, h2, h3, h4, h5, h6, -, -⟩ := Cond.code_spec hn (atoms_spec (ws := ws) h _ (by rw [hw]; exact List.mem_cons_self))
    exact ⟨meth, c, h1, h2, h3, h4, h5, h6⟩
  · intro p e s m args below meth c s₁ B0 hml hP _
    have hh0 : s₁.heap = s.heap := by rw [B0.state]; rfl
    have hno : c.exceptionTable.isEmpty = true := B0.noHandlers (atoms_spec (ws := ws) B0.pre _ (by rw [hw]; exact List.mem_cons_self))
    obtain ⟨t, a1, x, ce, b1, b2, b3⟩ := body p e s m args below meth c s₁ B0 hml (fun x hx => by rw [Array.isEmpty_iff.mp hno] at hx; cases hx) hP s₁ hh0 (Stand.of_body B0)
    exact ⟨t, .threw x, a1, b1, b2, x, ce, rfl, b3⟩
/-- the frame g, with x thrown over it -/
def wX (p : Program) (l : Launch) (e : Env) (R : Room) (s : State) (m : MethodId) (args : Array Value) (below : List Frame) (meth : Method) (c : Code) (H : Heap) (locs : List Loc) (cells slots : Nat) (Q : State → Prop) (g : JFrame) (x : Addr) : Prop :=
  ∀ T : State, T.heap = H → Stand p l e R s m args below meth c T locs cells slots → ∃ t, Steps p.tables e below ((T.setTop g).pushFrame (.throwing x)) t ∧ Q t
section XR
variable {p : Program} {l : Launch} {e : Env} {R : Room} {s : State} {m : MethodId} {args : Array Value} {below : List Frame} {meth : Method} {c : Code} {H : Heap} {locs : List Loc} {cells slots : Nat} {Q : State → Prop}
variable {D : va_G} {dA : Nat → ClassId} {A : Nat → Prop} {cc : ByteArray} {pc : Nat} {ls : Array Slot} {rest st0 : List Value} {ws wc wr : va_W}
/-- into a callee that throws, and back over the caller's frame -/
theorem xBack {T : State} (X : Stand p l e R s m args below meth c T locs cells slots) {g : JFrame} (hg : g.method = m) (hsize : g.locals.size = c.maxLocals) {ig : Instr} {len : Nat} (hdg : decode c.code g.pc = .ok (ig, len)) (hW : 2 * g.monitorRoom + (g.stack.map fun v => v.category).sum ≤ 8)
    {y : MethodName} {bytes : ByteArray} {maxL mc ms : Nat} {ret : Option FieldType} {rm : Room} {Pc : Array Value → State → Prop} {E : String} {B : State → State → Prop} {free : Addr → Prop} {mk : MethodId} {a : Array Value}
    (hn : T.methodNamed? y = some mk) (hM : mX l y [Cond.code y bytes maxL ret] rm Pc E B mc ms free) (hPc : Pc a (T.calling g mk a)) (hcode : (Cond.code y bytes maxL ret).before a T = true) (hini : (Cond.initialized y.cls).before a T = true)
    (hrc : rm.cells = mc) (hrs : rm.slots = ms) (hR : rm.frames + 1 ≤ R.frames ∧ 8 + (maxL + 11) + rm.locals ≤ R.locals) (hf : cells + mc ≤ R.cells ∧ slots + ms ≤ R.slots) :
    ∃ (x : Addr) (ce : Cell) (T' t : State) (L : List Loc), Stand p l e R s m args below meth c T' (locs ++ L) (cells + mc) (slots + ms) ∧ (∀ z ∈ L, free z.base) ∧ T'.heap = t.heap ∧ t.heap[x]? = some ce ∧ ce.vm = .none ∧ T.vm.findClass E = some ce.cls ∧ B (T.calling g mk a) t ∧
      Steps p.tables e below (doInvoke e (T.setTop g) [] mk a).1 ((T'.setTop g).pushFrame (.throwing x)) := by
  subst hrc; subst hrs
  have hpre : (headSpec [Cond.code y bytes maxL ret] rm).pre.before a T = true := atoms_intro fun w hw => by
    have hw' : w = Cond.code y bytes maxL ret := by simpa using hw
    subst hw'; exact hcode
  obtain ⟨methY, cY, hmY, hcY, -, hlY, -, -, -, -⟩ := Cond.code_spec hn hcode
  obtain ⟨kY, hkY, -⟩ := className_of_methodNamed hn
  have hinitY : kY.init = .initialized := Cond.initialized_spec (findClass_of_methodNamed hn) hkY hini
  have h : At T g.method c below := by rw [hg]; exact X.here
  have hroom := X.room_calling (g := g) (R' := rm) (args' := a) hsize hmY hcY hR.1 (by rw [hlY]; have := hR.2; omega) hf.1 hf.2
  have happ : (headSpec [Cond.code y bytes maxL ret] rm).appliesLoose y e.platform (T.calling g mk a) = true := Spec.appliesLoose_calling (g := g) h hdg hn hkY hinitY hroom hpre
  have hfr : (T.setTop g).frames = [.java g] ++ below := by rw [State.frames_setTop' g h.top, X.tail]; rfl
  obtain ⟨o, t, hsteps, -, hend, x, ce, rfl, hce, hcv, hcl, hWt, ⟨L, hsm, hL⟩, hB⟩ := Steps.callFree hM p X.admits X.cas X.clock (acts := []) hfr happ hPc trivial
  rw [State.frames_setTop' g h.top, X.tail] at hend
  obtain ⟨T', X', hW', hsm', ht⟩ := X.outOfThrown hg hend hWt hsm
  refine ⟨x, ce, T', t, L, X', hL, ?_, hce, hcv, hcl, hB, ?_⟩
  · rw [ht]; exact (Stand.throwing_heap T' g x).symm
  · rw [← ht]; exact hsteps
theorem fX {T : State} {vm₁ : Vm} {E : String} {k : ClassId} (hW : s.WarmedH vm₁) (h : (T.setVm vm₁).vm.findClass E = some k) : s.vm.findClass E = some k := by
  have h1 : vm₁.findClass E = some k := h
  rw [hW.alike.findClass] at h1
  exact h1
/-- invokevirtual of a method that throws; its world is forgotten, the rest stands as it did -/
theorem xnV {y : MethodName} {bytes : ByteArray} {maxL mc ms n index nL : Nat} {ret : Option FieldType} {rm : Room} {E : String} {w1 : va_W} {own C : String} {T : u_T} {N ci q0 : Nat} {fs : List Value} {b : Nat} {As : List Value}
    (hx : p.tables.exec = Jvm.exec) (hb : c.code = cc) (hml : c.maxLocals = nL) (hown : s.vm.findClass own = some m.cls) (hE : eV s) (hK : va_K D vwCl (arT dA) s) (hN : sK s.heap H) (hPc : va_P D vwCl wc H) (hDc : va_D A wc)
    (hM : mX l y [Cond.code y bytes maxL ret] rm (pC D dA (.ref b :: As) wc H.size) E (fun st t => va_F (va_A wc H.size) st t ∧ bW D (va_A wc H.size) w1 t) mc ms (va_A wc H.size)) (he : wc[q0]? = some (b, .inr (ci, fs))) (hcl : vwCl[ci]? = some (C, T, N))
    (hc : Cond.code y bytes maxL ret ∈ aW) (hl : Cond.methodLink own index y ∈ aW) (hi : Cond.instanceMethod y ∈ aW) (hse : Cond.selects C y y ∈ aW) (hini : Cond.initialized y.cls ∈ aW) (hrc : rm.cells = mc) (hrs : rm.slots = ms)
    (hd : (y.cls ≠ "java/lang/invoke/MethodHandle" ∧ y.cls ≠ "java/lang/invoke/VarHandle") ∧ (parseMethodDescriptor y.desc).map (fun d => d.parameters.length) = some n) (hR : rm.frames + 1 ≤ R.frames ∧ 8 + (maxL + 11) + rm.locals ≤ R.locals)
    (hn : As.length = n) (hsize : ls.size = nL) (hst : st0 = As.reverse ++ .ref b :: rest) (hW : (rest.map fun v => v.category).sum ≤ 8) (hdg : decode cc pc = .ok (.invokevirtual index, 3)) (hf : cells + mc ≤ R.cells ∧ slots + ms ≤ R.slots)
    (hP : va_P D vwCl ws H) (hD : va_D A ws) (hS : va_S A s.heap H locs) (hA : ∀ q, s.heap.size ≤ q → A q) (isC isR : List Nat) (hC : isC.map (fun i => ws[i]?) = wc.map some) (hRr : isR.map (fun i => ws[i]?) = wr.map some) (hnd : va_nd isR = true) (hdis : ∀ i ∈ isR, i ∉ isC)
    (kk : ∀ (x : Addr) (ce : Cell) (H1 : Heap) (locs1 : List Loc), va_P D vwCl (wr ++ w1) H1 → va_D A (wr ++ w1) → va_S A s.heap H1 locs1 → H1[x]? = some ce → ce.vm = .none → s.vm.findClass E = some ce.cls → wX p l e R s m args below meth c H1 locs1 (cells + mc) (slots + ms) Q (F0 m pc ls rest) x) :
    W p l e R s m args below meth c H locs cells slots Q (F0 m pc ls st0) := by
  intro T0 hT X
  have hF := va_free hD hS hA isC hC
  have hcode : (Cond.code y bytes maxL ret).before args s = true := hE.t hc rfl
  have hinst : (Cond.instanceMethod y).before args s = true := hE.t hi rfl
  have hsel : (Cond.selects C y y).before args s = true := hE.t hse rfl
  obtain ⟨cellB, hcB, hoB, hclB⟩ := va_recv hK hPc hcl he
  obtain ⟨mk, methM, hnamed, hmethM, hstM, habM⟩ := Cond.instanceMethod_spec hinst
  obtain ⟨methM', cM, hmethM', -, -, -, -, -, -, hsigM⟩ := Cond.code_spec hnamed hcode
  cases hmethM.symm.trans hmethM'
  obtain ⟨c2, r2, m2, q1, q2, q3, q4, kP, hkP, hkPi⟩ := Cond.selects_spec hsel
  cases hclB.symm.trans q1
  cases (State.methodFound?_of_named hnamed hd.1).symm.trans q2
  cases hnamed.symm.trans q3
  have hselP : selectMethod e.platform s.vm cellB.cls mk = .method mk := by rw [Launch.admits_selectMethod X.admits]; exact q4
  have hlen : As.length = methM.sig.parameters.length := by
    have h2 := hd.2
    rw [hsigM] at h2
    exact hn.trans (Option.some.inj h2).symm
  obtain ⟨vm₁, X₁, hstep₁⟩ := X.invokevirtual hx hown (hE.t hl rfl) hnamed hmethM hstM hkP hkPi hd.1 (a := b) (cell := cellB) (by rw [hT]; exact hcB)
    (fun z h => by rw [h] at hoB; cases hoB) hselP hmethM habM hkP hkPi (g := F0 m pc ls st0) rfl (argsL := As) (rest := rest) hlen hst (by rw [hb]; exact hdg)
  obtain ⟨x, ce, T', t, L, X', hL, e1, hce, hcv, hcl2, ⟨hFr, hB⟩, hsteps⟩ := xBack X₁ (g := F0 m pc ls rest) rfl (hsize.trans hml.symm) (ig := .invokevirtual index) (len := 3) (by rw [hb]; exact hdg) (lv_room hW) (X₁.named hnamed) hM
    (pC_blind _ _ _ _ (pre_1 hE hK hN hPc hDc (T0.setVm vm₁) hT X₁.warmed)) (word_at X₁.warmed (Or.inl rfl) hcode) (word_at X₁.warmed (Or.inl rfl) (hE.t (args := args) hini rfl)) hrc hrs hR hf
  have hz : H.size ≤ t.heap.size := by have := hFr.1; rw [← hT]; exact this
  have hk : ∀ q : Nat, q < H.size → ¬ va_A wc H.size q → t.heap[q]? = H[q]? := fun q h1 h2 => by
    have := hFr.2 q (by show q < T0.heap.size; rw [hT]; exact h1) h2
    rw [this]; show T0.heap[q]? = _; rw [hT]
  obtain ⟨g1, g2⟩ := va_join hP hD isC isR hC hRr hnd hdis hk hF hB.1 hB.2
  obtain ⟨t2, a1, b1⟩ := kk x ce t.heap (locs ++ L) g1 g2 ⟨Nat.le_trans hS.1 hz, fun q h1 h2 => by
      rw [hk q (Nat.lt_of_lt_of_le h1 hS.1) (fun z => h2 (hF q z))]; exact hS.2.1 q h1 h2, fun q hq => by
      rcases List.mem_append.mp hq with h | h
      · exact hS.2.2 q h
      · exact hF _ (hL q h)⟩ hce hcv (fX X₁.warmed hcl2) T' e1 X'
  exact ⟨t2, hstep₁ _ fun acts => by rw [doInvoke_state]; exact hsteps.trans a1, b1⟩
/-- not caught here: it goes on to the caller -/
theorem xOut {E : String} {B : State → State → Prop} {free : Addr → Prop} {ce : Cell} {x : Addr} {mc ms : Nat} (hout : ∀ z ∈ c.exceptionTable.toList, False) (hlocks : meth.locks = false) (hcell : H[x]? = some ce) (hv : ce.vm = .none) (hcl : s.vm.findClass E = some ce.cls)
    (hB : ∀ t : State, t.heap = H → B s t) (hf : ∀ z ∈ locs, free z.base) (hc : cells ≤ mc) (hs : slots ≤ ms) :
    wX p l e R s m args below meth c H locs cells slots (xQ below E B s mc ms free) (F0 m pc ls rest) x := by
  intro T hT X
  obtain ⟨st1, hrun, hend, hW, hsm⟩ := X.leaveThrown x (g := F0 m pc ls rest) rfl rfl rfl (fun z hz => (hout z hz).elim) hlocks
  exact ⟨_, st1, x, ce, hrun, hend, by show T.heap[x]? = some ce; rw [hT]; exact hcell, hv, hcl, hW, ⟨locs, hsm.mono hc hs, hf⟩, hB _ hT⟩
/-- the walk seen from here: as if the method were called now, in this heap, with what room is left -/
theorem stHere {T : State} (X : Stand p l e R s m args below meth c T locs cells slots) {R' : Room} (hf : R'.frames ≤ R.frames) (hl : R'.locals ≤ R.locals) (hc : cells + R'.cells ≤ R.cells) (hs : slots + R'.slots ≤ R.slots) :
    Stand p l e R' ((T.setVm s.vm).setFrames (.invoking m args :: below)) m args below meth c T [] 0 0 := by
  have htop : (T.setVm s.vm).topJava?.isSome := X.here.top
  obtain ⟨g₀, hg0⟩ := Option.isSome_iff_exists.mp htop
  obtain ⟨r, hr⟩ := State.topJava?_eq_some.mp hg0
  have hF : ((T.setVm s.vm).setFrames (.invoking m args :: below)).frames = .invoking m args :: below := State.frames_setFrames _ (State.cur_lt_of_top htop)
  have hme : e.platform.stackLimits ((T.setVm s.vm).setFrames (.invoking m args :: below)).me = e.platform.stackLimits s.me := by rw [State.stackLimits_setFrames]; exact X.limits
  have hby : ((T.setVm s.vm).setFrames (.invoking m args :: below)).me.stackBytes = s.me.stackBytes := by rw [State.stackBytes_setFrames]; exact X.bytes
  refine ⟨X.admits, X.cas, X.clock, hF, ?_, X.hears, X.method, X.code, X.here, X.tail, X.warmed, X.limits.trans hme.symm, X.bytes.trans hby.symm, ?_⟩
  · have h := X.room
    have hU : ((T.setVm s.vm).setFrames (.invoking m args :: below)).localsInUse = s.localsInUse := by
      rw [State.localsInUse_invoking hF (meth := meth) (c := c) X.method X.code, State.localsInUse_invoking X.frames X.method X.code]
    simp only [State.hasRoom, Bool.and_eq_true, decide_eq_true_eq] at h ⊢
    obtain ⟨⟨⟨⟨h1, h2, h3, h4, h5, h6⟩, h7⟩, h8⟩, h9⟩ := h
    rw [X.frames, List.length_cons] at h2 h3
    have q1 := X.heapSize
    have q2 := X.used
    simp only [hF, hU, List.length_cons, hme, hby]
    refine ⟨⟨⟨⟨by omega, by omega, by omega, by omega, by omega, h6⟩, ?_⟩, ?_⟩, X.book⟩
    · show T.heap.size + R'.cells ≤ e.platform.maxCells
      omega
    · show T.slotsUsed + R'.slots ≤ e.platform.maxSlots
      omega
  · have hnil : ((T.heap.toList.drop T.heap.size).map (·.slots.size)).sum = 0 := by rw [List.drop_eq_nil_of_le (Nat.le_of_eq Array.length_toList)]; rfl
    refine ⟨?_, Nat.le_refl _, Nat.le_refl _, ?_, ?_, fun a c9 h9 => ⟨c9, h9, rfl, rfl, fun _ _ => rfl⟩⟩
    · obtain ⟨t, ht, -⟩ := State.frames_cons hr
      show T.setVm s.vm = { ((T.setVm s.vm).setFrames (.invoking m args :: below)).setFrames (T.setVm s.vm).frames with heap := T.heap, slotsUsed := T.slotsUsed }
      rw [State.setFrames_setFrames, State.setFrames_self ht]
      rfl
    · show T.slotsUsed = T.slotsUsed + ((T.heap.toList.drop T.heap.size).map (·.slots.size)).sum
      rw [hnil]; rfl
    · show ((T.heap.toList.drop T.heap.size).map (·.slots.size)).sum ≤ 0
      rw [hnil]; exact Nat.le_refl _
/-- what was there and is not among the places written is there still -/
theorem stOld {U : State} {k n : Nat} (h : s.sameButNew ({ U with vm := s.vm } : State) [] k n) : s.heap.size ≤ U.heap.size ∧ ∀ q : Nat, q < s.heap.size → U.heap[q]? = s.heap[q]? := by
  obtain ⟨-, h2, -, -, -, h6⟩ := h
  refine ⟨h2, fun q hq => ?_⟩
  obtain ⟨c9, e1, e2, e3, e4⟩ := h6 q _ (Array.getElem?_eq_getElem hq)
  have hs : c9.slots = (s.heap[q]).slots := Array.ext_getElem? fun i => e4 i (fun hm => nomatch hm)
  have h9 : c9 = s.heap[q] := by
    rw [hs] at e2
    exact e2
  have e5 : U.heap[q]? = some c9 := e1
  rw [e5, h9, Array.getElem?_eq_getElem hq]
/-- throw new E(): new; dup; invokespecial; athrow -/
theorem xNew {E : String} {B : State → State → Prop} {free : Addr → Prop} {mc ms : Nat} (hx : p.tables.exec = Jvm.exec) (hb : c.code = cc) (htr : l.stackTraces = false) {own : String} {names : List String} {ik ic : Nat}
    (hown : s.vm.findClass own = some m.cls) (hcls : Bundle.fit E = true) (hnames : ∀ n ∈ names, Bundle.fit n = true) (hE : eV s) (hk : Cond.classLink own ik E ∈ aW) (hini : Cond.initialized E ∈ aW)
    (hat : ∀ U : State, eV U → ∀ w ∈ Bundle.ownAtoms0 own ic E names, w.before args U = true) (hN : sK s.heap H) (hsize : ls.size = c.maxLocals)
    (d0 : decode cc pc = .ok (.new ik, 3)) (d3 : decode cc (pc + 3) = .ok (.dup, 1)) (d4 : decode cc (pc + 4) = .ok (.invokespecial ic, 3)) (d7 : decode cc (pc + 7) = .ok (.athrow, 1)) (hout : ∀ z ∈ c.exceptionTable.toList, False)
    (hRf : names.length + 3 < R.frames) (hRl : (rest.map fun v => v.category).sum + (13 * (names.length + 1) + 42) ≤ R.locals) (hRc : cells + 1 ≤ R.cells) (hRs : slots + 6 ≤ R.slots) (hlocks : meth.locks = false)
    (hB : ∀ t : State, H.size ≤ t.heap.size → (∀ q : Nat, q < H.size → t.heap[q]? = H[q]?) → B s t) (hf : ∀ z ∈ locs, free z.base) (hc : cells + 1 ≤ mc) (hs : slots + 6 ≤ ms) :
    W p l e R s m args below meth c H locs cells slots (xQ below E B s mc ms free) (F0 m pc ls rest) := by
  intro T hT X
  have htr' : e.platform.stackTraces = false := (show e.platform.stackTraces = l.stackTraces by rw [X.admits.platform]).trans htr
  have Y := stHere X (R' := { frames := R.frames, locals := R.locals, cells := 1, slots := 6 }) (Nat.le_refl _) (Nat.le_refl _) hRc hRs
  obtain ⟨u, hu⟩ : ∃ z, z = (T.setVm s.vm).setFrames (.invoking m args :: below) := ⟨_, rfl⟩
  rw [← hu] at Y
  have hvm : u.vm = s.vm := by rw [hu]; rfl
  have hhp : u.heap = H := by rw [hu]; exact hT
  have hW0 : s.WarmedH u.vm := by rw [hvm]; exact State.WarmedH.refl s
  have hEu : eV u := hE.go hW0 (by rw [hhp]; exact hN)
  have hown' : u.vm.findClass own = some m.cls := by rw [hvm]; exact hown
  obtain ⟨vm₁, cX, kX, hfX, hkX, -, -, X₁, st1⟩ := Y.newCold hx (own := own) (C := E) (index := ik) (n := 6) hown' (hEu.t hk rfl) (hat u hEu _ (by simp [Bundle.ownAtoms0])) (hEu.t hini rfl)
    (g := F0 m pc ls rest) rfl (by rw [hb]; exact d0) (Nat.le_refl _) (Nat.le_refl _)
  generalize hT1 : (T.setVm vm₁).pushCell { cls := cX, slots := kX.instanceTypes.map defaultValue, vm := .none } = T1 at X₁ st1
  have hcat : (Value.ref T.heap.size).category = 1 := rfl
  have hcellA : T1.heap[T.heap.size]? = some (freshCell cX kX) := by rw [← hT1]; exact State.heap_pushCell_size _ _
  have d3' : decode c.code (pc + 3) = .ok (.dup, 1) := by rw [hb]; exact d3
  obtain ⟨U, hsteps, hrun, hend, hW, hsame, ce, hce, hO⟩ := X₁.ctorThrow0 hx htr' (own := own) (cls := E) (names := names) (ic := ic) hown' hcls hnames (hat u hEu) (fun z hz => nomatch hz) hfX hkX hcellA (by rw [hhp, hT]; exact Nat.le_refl _)
    (g := { method := m, pc := pc + 4, locals := ls, stack := .ref T.heap.size :: .ref T.heap.size :: rest, locked := none }) rfl hsize rfl rfl (rest := rest) rfl
    (by rw [hb]; exact d4) (by rw [hb]; exact d7) (fun z hz => (hout z hz).elim) hRf (by simp only [List.map_cons, List.sum_cons, hcat]; omega) hlocks
  obtain ⟨f1, f2⟩ := stOld hsame
  rw [hhp] at f1 f2
  have hcl : s.vm.findClass E = some ce.cls := by
    have h9 := hO.cls
    rw [hvm] at h9
    exact h9
  have hall : s.sameButNew ({ U with vm := s.vm } : State) locs mc ms := by
    subst hu
    obtain ⟨e1, e2⟩ := hsame
    rw [State.setFrames_setFrames] at e1
    have h2 : (T.setVm s.vm).sameButNew ({ U with vm := s.vm } : State) [] (0 + 1) (0 + 6) := ⟨e1, e2⟩
    have h3 := X.same.trans h2
    rw [List.append_nil] at h3
    exact h3.mono hc hs
  refine ⟨U, ?_, T.heap.size, ce, hrun, hend, hce, hO.vm, hcl, State.WarmedH.trans hW0 hW, ⟨locs, hall, hf⟩, hB U f1 f2⟩
  refine st1 _ ?_
  show Steps p.tables e below (T1.setTop { method := m, pc := pc + 3, locals := ls, stack := .ref T.heap.size :: rest, locked := none }) _
  jvm_step X₁.here [X₁.here.top, hx, d3', Value.category]
  exact hsteps
end XR
end
section
/-! The catch, and methods with a table of their own. -/
/-- what the search for a handler gives, and the tables that it leaves -/
def fTo (e : Env) (s : State) (f : JFrame) (a : Addr) (h : Handler) (vm' : Vm) : Prop :=
  ∀ (Q : Handler → Pre) (E : CtlPost) (d : Bool) (acts : List Action), wp (findHandler f a) Q E e d acts s ↔ Q h d acts (s.setVm vm')
section FT
variable {Q : Handler → Pre} {E : CtlPost} {e : Env} {d : Bool} {acts : List Action} {s : State} {f : JFrame} {a : Addr}
/-- one row of the table that covers the place and names a class: taken or passed over, as the class is one above the object's or not -/
theorem fRow {x : ExceptionTableEntry} {t : List ExceptionTableEntry} {c : ClassId} {cell : Cell} (hx : covers x f.pc = true) (h0 : x.catchType ≠ 0)
    (hl : s.vm.ClassLinks e.platform f.method.cls x.catchType c) (hcell : s.heap[a]? = some cell) (hobj : ∀ k, cell.vm ≠ .statics k)
    (hk : ∃ k, s.vm.classes[cell.cls]? = some k) (hc : ∃ k, s.vm.classes[c]? = some k) {b : Bool} (hfit : s.vm.assignable cell.cls c = b) :
    wp (findHandler.go f a (x :: t)) Q E e d acts s ↔ if b = true then Q (.found x.handlerPc) d acts (s.setVm (s.vm.noted f.method.cls x.catchType (.cls c))) else wp (findHandler.go f a t) Q E e d acts (s.setVm (s.vm.noted f.method.cls x.catchType (.cls c))) := by
  simp only [covers] at hx
  obtain ⟨ha, ht⟩ := (resolveClass_links e.toSetting hl).op (op := VmOp.resolveClass f.method.cls x.catchType) rfl
  have hal : s.vm.Alike (s.vm.noted f.method.cls x.catchType (.cls c)) := (Vm.Alike.refl s.vm).noted _ _ _
  obtain ⟨k1, hk1⟩ := hk
  obtain ⟨k2, hk2⟩ := hc
  obtain ⟨k1', hk1', -⟩ := hal.2.2 _ _ hk1
  obtain ⟨k2', hk2', -⟩ := hal.2.2 _ _ hk2
  have hfit' : (s.vm.noted f.method.cls x.catchType (.cls c)).assignable cell.cls c = b := by rw [hal.assignable]; exact hfit
  cases b <;> simp [findHandler.go, hx, h0, ha, ht, hcell, hobj, hk1', hk2', hfit', VmOp.dirties, VmOp.acts]
end FT
/-- a row is passed over -/
def rPass (pl : Platform) (s : State) (d : ClassId) (pc : Nat) (k : ClassId) (y : ExceptionTableEntry) : Prop := covers y pc = false ∨ (y.catchType ≠ 0 ∧ ∃ c, s.vm.ClassLinks pl d y.catchType c ∧ s.vm.assignable k c = false)
theorem fGo {e : Env} {s₀ : State} {f : JFrame} {a : Addr} {cell : Cell} (hobj : ∀ k, cell.vm ≠ .statics k) (hk0 : ∃ k, s₀.vm.classes[cell.cls]? = some k)
    (x : ExceptionTableEntry) (rest : List ExceptionTableEntry) (hx : covers x f.pc = true) (h0 : x.catchType ≠ 0) {cx : ClassId} (hlx : s₀.vm.ClassLinks e.platform f.method.cls x.catchType cx) (hfx : s₀.vm.assignable cell.cls cx = true) :
    ∀ (pre : List ExceptionTableEntry) (S : State), s₀.WarmedH S.vm → S.heap[a]? = some cell → (∀ y ∈ pre, rPass e.platform s₀ f.method.cls f.pc cell.cls y) →
      ∃ vm', s₀.WarmedH vm' ∧ ∀ (Q : Handler → Pre) (E : CtlPost) (d : Bool) (acts : List Action), wp (findHandler.go f a (pre ++ x :: rest)) Q E e d acts S ↔ Q (.found x.handlerPc) d acts (S.setVm vm') := by
  obtain ⟨k0, hk0⟩ := hk0
  intro pre
  induction pre with
  | nil =>
    intro S hW hcell _
    obtain ⟨k0', hk0', -⟩ := hW.alike.2.2 _ _ hk0
    obtain ⟨dk, _, _, kt, hd, _, _, _, _, hkt, _, hopen⟩ := hlx.here
    obtain ⟨kt', hkt', -⟩ := hW.alike.2.2 _ _ hkt
    exact ⟨_, hW.noted hd hopen (State.rightAt_cls hlx), fun Q E d acts => by
      rw [List.nil_append, fRow hx h0 (hW.classLinks hlx) hcell hobj ⟨k0', hk0'⟩ ⟨kt', hkt'⟩ (b := true) (by rw [hW.alike.assignable]; exact hfx), if_pos rfl]⟩
  | cons y ys ih =>
    intro S hW hcell hpass
    obtain ⟨k0', hk0', -⟩ := hW.alike.2.2 _ _ hk0
    have hrest : ∀ z ∈ ys, rPass e.platform s₀ f.method.cls f.pc cell.cls z := fun z hz => hpass z (List.mem_cons_of_mem _ hz)
    cases hcov : covers y f.pc with
    | false =>
      obtain ⟨vm', hW', hq⟩ := ih S hW hcell hrest
      exact ⟨vm', hW', fun Q E d acts => by rw [List.cons_append, W.findHandler_go_skip hcov]; exact hq Q E d acts⟩
    | true =>
      rcases hpass y List.mem_cons_self with h | ⟨h0y, cy, hly, hno⟩
      · rw [h] at hcov; cases hcov
      · obtain ⟨dk, _, _, kt, hd, _, _, _, _, hkt, _, hopen⟩ := hly.here
        obtain ⟨kt', hkt', -⟩ := hW.alike.2.2 _ _ hkt
        obtain ⟨vm', hW', hq⟩ := ih (S.setVm (S.vm.noted f.method.cls y.catchType (.cls cy))) (hW.noted hd hopen (State.rightAt_cls hly)) hcell hrest
        exact ⟨vm', hW', fun Q E d acts => by
          rw [List.cons_append, fRow hcov h0y (hW.classLinks hly) hcell hobj ⟨k0', hk0'⟩ ⟨kt', hkt'⟩ (b := false) (by rw [hW.alike.assignable]; exact hno), if_neg (by decide)]
          exact hq Q E d acts⟩
theorem fStep {tb : Tables} {e : Env} {s target : State} {g : JFrame} {c : Code} {below : List Frame} {a : Addr} (h : At s g.method c below) {pc : Nat} {vm' : Vm}
    (hfind : fTo e ((s.setTop g).pushFrame (.throwing a)) g a (.found pc) vm') (hrest : Steps tb e below ((s.setVm vm').setTop { g with pc := pc, stack := [.ref a] }) target) :
    Steps tb e below ((s.setTop g).pushFrame (.throwing a)) target := by
  obtain ⟨hgo, hw⟩ := h.throwing a
  obtain ⟨g₀, hg⟩ := Option.isSome_iff_exists.mp h.top
  obtain ⟨r, hr⟩ := State.topJava?_eq_some.mp hg
  refine Steps.head hgo hw ?_
  have hstep : (stepThrowing e ((s.setTop g).pushFrame (.throwing a)) a (.java g :: r)).Is ((((s.setTop g).pushFrame (.throwing a)).setVm vm').setFrames (.java { g with pc := pc, stack := [.ref a] } :: r)) [] := by
    simp only [stepThrowing, searchFrame, vmDo]
    generalize hres : Sem.go _ e false [] _ = res
    obtain ⟨as, rfl, ha⟩ := Sem.eq_ok_of hres (a := Handler.found pc) (s' := ((s.setTop g).pushFrame (.throwing a)).setVm vm') (acts' := []) (by simp [hfind _ _ _ _])
    exact ⟨rfl, ha⟩
  have hr' : (s.setVm vm').frames = .java g₀ :: r := hr
  rw [State.setTop_of_frames _ hr'] at hrest
  have htail : s.frames.tail = r := by rw [hr]; rfl
  rw [stepThread_throwing (frames_entered h.top _), htail, hstep.1]
  have e1 : (((s.setTop g).pushFrame (.throwing a)).setVm vm').setFrames (.java { g with pc := pc, stack := [.ref a] } :: r) = (s.setVm vm').setFrames (.java { g with pc := pc, stack := [.ref a] } :: r) := by
    rw [State.pushFrame, State.setTop_of_frames _ hr, State.setFrames_setFrames]
    show ((s.setVm vm').setFrames _).setFrames _ = _
    rw [State.setFrames_setFrames]
  rw [e1]
  exact hrest
section CT
variable {p : Program} {l : Launch} {e : Env} {R : Room} {s : State} {m : MethodId} {args : Array Value} {below : List Frame} {meth : Method} {c : Code} {H : Heap} {locs : List Loc} {cells slots : Nat} {Q : State → Prop}
variable {D : va_G} {dA : Nat → ClassId} {A : Nat → Prop} {cc : ByteArray} {pc : Nat} {ls : Array Slot} {rest st0 : List Value} {ws wc wr : va_W}
/-- caught by the row x of this method's table; the rows ahead of it pass it over -/
theorem xCatch {own E : String} {ce : Cell} {q : Addr} (hown : s.vm.findClass own = some m.cls) (hE : eV s) (pre : List ExceptionTableEntry) (x : ExceptionTableEntry) (suf : List ExceptionTableEntry) (hsplit : c.exceptionTable.toList = pre ++ x :: suf)
    (hpass : ∀ z ∈ pre, z.catchType ≠ 0 ∧ ∃ nm : String, Cond.classLink own z.catchType nm ∈ aW ∧ (E, nm) ∈ ncL) (hx : covers x pc = true) (h0 : x.catchType ≠ 0)
    (hlink : Cond.classLink own x.catchType E ∈ aW) (hcast : Cond.castable E E ∈ aW) (hcell : H[q]? = some ce) (hv : ce.vm = .none) (hcl : s.vm.findClass E = some ce.cls)
    (kk : W p l e R s m args below meth c H locs cells slots Q (F0 m x.handlerPc ls [.ref q])) : wX p l e R s m args below meth c H locs cells slots Q (F0 m pc ls rest) q := by
  intro T hT X
  have hpl : e.platform.magicAccessors = ({} : Platform).magicAccessors := by rw [X.admits.platform]
  obtain ⟨c3, c4, hc3, hc4, hasg⟩ := Cond.castable_spec (hE.t (args := args) hcast rfl)
  cases Option.some.inj (hc3.symm.trans hcl)
  cases Option.some.inj (hc4.symm.trans hcl)
  obtain ⟨c5, hc5, hcl5⟩ := Cond.classLink_spec hown (hE.t (args := args) hlink rfl) e.platform hpl
  cases Option.some.inj (hc5.symm.trans hcl)
  obtain ⟨k9, h9, -⟩ := Vm.findClass_spec hcl
  obtain ⟨vm', hW', hq⟩ := fGo (e := e) (s₀ := s) (f := F0 m pc ls rest) (a := q) (cell := ce) (fun k h => by rw [hv] at h; cases h) ⟨k9, h9⟩ x suf hx h0 hcl5 hasg pre ((T.setTop (F0 m pc ls rest)).pushFrame (.throwing q)) X.warmed (by rw [Stand.throwing_heap, hT]; exact hcell)
    (fun z hz => by
      obtain ⟨hz0, nm, hl1, hn1⟩ := hpass z hz
      obtain ⟨c6, hc6, hcl6⟩ := Cond.classLink_spec hown (hE.t (args := args) hl1 rfl) e.platform hpl
      obtain ⟨a8, b8, g1, g2, g3⟩ := hE.2.2.2.2.2 _ hn1
      cases Option.some.inj (g1.symm.trans hcl)
      cases Option.some.inj (g2.symm.trans hc6)
      exact Or.inr ⟨hz0, _, hcl6, g3⟩)
  obtain ⟨t, a1, b1⟩ := kk (T.setVm vm') hT (X.noted hW')
  refine ⟨t, fStep X.here (fun Q2 E2 d acts => ?_) a1, b1⟩
  rw [W.findHandler_eq (meth := meth) (code := c) X.method' X.code, hsplit]
  exact hq Q2 E2 d acts
/-- the body's own table -/
theorem tabOf {y : MethodName} {S : Spec} {bytes : ByteArray} {maxL maxL' : Nat} {ret ret' : Option FieldType} {s₁ : State} {hh : List (Nat × Nat × Nat × Nat)}
    (B : BodyLoose p l y S cc maxL ret e s m args below meth c s₁) (h : (Cond.codeWith y bytes maxL' ret' hh).before args s = true) : c.exceptionTable.toList = tableOf hh := by
  obtain ⟨m9, meth9, c9, hn9, h1, h2, -, -, h6, -⟩ := Cond.codeWith_spec h
  cases Option.some.inj (hn9.symm.trans B.named)
  cases Option.some.inj (h1.symm.trans B.method)
  cases Option.some.inj (h2.symm.trans (Stand.of_body B).code)
  rw [← h6, table_eq]
/-- invokestatic of a method with a table of its own, which returns -/
theorem rnW {y : MethodName} {bytes : ByteArray} {maxL mc ms n index nL : Nat} {ret : Option FieldType} {hh : List (Nat × Nat × Nat × Nat)} {rm : Room} {Qc : Array Value → State → Outcome → State → Prop} {free : Addr → Prop} {own : String} {As : List Value}
    (hx : p.tables.exec = Jvm.exec) (hb : c.code = cc) (hml : c.maxLocals = nL) (hown : s.vm.findClass own = some m.cls) (hE : eV s) (hK : va_K D vwCl (arT dA) s) (hN : sK s.heap H) (hP : va_P D vwCl wc H) (hD : va_D A wc)
    (hM : Met l y [Cond.codeWith y bytes maxL ret hh] rm (pC D dA As wc H.size) Qc mc ms free)
    (hc : Cond.codeWith y bytes maxL ret hh ∈ aW) (hl : Cond.methodLink own index y ∈ aW) (hstat : Cond.static y ∈ aW) (hini : Cond.initialized y.cls ∈ aW) (hrc : rm.cells = mc) (hrs : rm.slots = ms)
    (hd : (y.cls ≠ "java/lang/invoke/MethodHandle" ∧ y.cls ≠ "java/lang/invoke/VarHandle") ∧ (parseMethodDescriptor y.desc).map (fun d => d.parameters.length) = some n) (hR : rm.frames + 1 ≤ R.frames ∧ 8 + (maxL + 11) + rm.locals ≤ R.locals)
    (hn : As.length = n) (hsize : ls.size = nL) (hst : st0 = As.reverse ++ rest) (hW : (rest.map fun v => v.category).sum ≤ 8) (hdg : decode cc pc = .ok (.invokestatic index, 3)) (hf : cells + mc ≤ R.cells ∧ slots + ms ≤ R.slots) :
    va_Run p l e R s m args below meth c H locs cells slots mc ms (F0 m pc ls st0) rest (Qc As.toArray) free := by
  have hcode : (Cond.codeWith y bytes maxL ret hh).before args s = true := hE.t hc rfl
  have hK9 : Back l R p e below s args y 3 8 (PreOf R mc ms (pC D dA As wc H.size)) (PostOf Qc mc ms free) := va_backW (hh := hh) (bytes := bytes) (maxL := maxL) (ret := ret) hM pC_blind hrc hrs hR.1 hR.2
    (fun w hw a' U hW9 => by
      have hw' : w = Cond.codeWith y bytes maxL ret hh := by simpa using hw
      subst hw'
      exact word_at (args := #[]) hW9 (Or.inl rfl) (hE.1 _ hc)) List.mem_cons_self (fun a' U hW9 => word_at hW9 (Or.inl rfl) (hE.1 _ hini))
  intro T hT X
  obtain ⟨mk, methM, cM, hnamed, hmethM, -, -, -, -, -, -, hsigM⟩ := Cond.codeWith_spec hcode
  have hstatic : methM.isStatic = true := Cond.static_spec hnamed hmethM (hE.t (args := args) hstat rfl)
  obtain ⟨kP, hkP, -⟩ := className_of_methodNamed hnamed
  have hinitP : kP.init = .initialized := Cond.initialized_spec (findClass_of_methodNamed hnamed) hkP (hE.t (args := args) hini rfl)
  have hlen : As.length = methM.sig.parameters.length := by
    have h2 := hd.2
    rw [hsigM] at h2
    exact hn.trans (Option.some.inj h2).symm
  obtain ⟨vm₁, X₁, hstep₁⟩ := X.invokestatic hx hown (hE.t hl rfl) hnamed hmethM hstatic hkP hinitP hd.1 (g := F0 m pc ls st0) rfl (argsL := As) (rest := rest) hlen hst (by rw [hb]; exact hdg)
  obtain ⟨v, ⟨U', l2, c2, s2⟩, X', ⟨g', mk', t, L, e1, e2, hq, h1, hL, h2, h3⟩, hsteps⟩ := hK9 m meth c ⟨T.setVm vm₁, locs, cells, slots⟩ (F0 m pc ls rest) (.invokestatic index) mk As.toArray X₁ rfl (hsize.trans hml.symm) (by rw [hb]; exact hdg) (lv_room hW) (X₁.named hnamed) ⟨hf.1, hf.2, pre_1 hE hK hN hP hD (T.setVm vm₁) hT X₁.warmed⟩
  dsimp only [Pt.U, Pt.locs, Pt.cells, Pt.slots] at X' e1 e2 h1 h2 h3 hsteps
  subst h1; subst h2; subst h3
  exact ⟨v, (T.setVm vm₁).calling g' mk' As.toArray, t, U', L, hT, X', hL, e1, e2, hq, fun target h => hstep₁ _ fun acts => by rw [doInvoke_state]; exact hsteps.trans h⟩
end CT
end
section
/-! Fields, new objects, a body's beginning, its end: over the surroundings. -/
theorem hLay {s : State} {args : Array Value} {C : String} {T : u_T} {N : Nat} (hE : eV s) (hlay : ∀ w ∈ u_ws C T N, w ∈ aW) : ∀ w ∈ u_ws C T N, w.before args s = true := by
  intro w h
  refine hE.t (hlay w h) ?_
  obtain ⟨k, -, rfl⟩ := List.mem_map.mp h
  unfold u_lay
  split <;> rfl
/-- what a body knows at its beginning -/
def bS (p : Program) (s : State) (m : MethodId) (meth : Method) (c : Code) (cc : ByteArray) (ret : Option FieldType) (maxL : Nat) (y : MethodName) (D : va_G) (dA : Nat → ClassId) (ws : va_W) (A : Nat → Prop) (av : List Value) (ls : Array Slot) : Prop :=
  p.tables.exec = Jvm.exec ∧ c.code = cc ∧ meth.sig.returnType = ret ∧ c.maxLocals = maxL ∧ s.vm.findClass y.cls = some m.cls ∧ meth.name = y.name ∧ meth.locks = false ∧ eV s ∧ va_K D vwCl (arT dA) s ∧ va_P D vwCl ws s.heap ∧ va_D A ws ∧ va_S A s.heap s.heap [] ∧ (∀ q, s.heap.size ≤ q → A q) ∧ (∀ (H : Heap) (L : List Loc), va_S A s.heap H L → sK s.heap H) ∧ lv_has ls maxL (lv_args 0 av)
theorem mkC {l : Launch} {y : MethodName} {cc : ByteArray} {maxL : Nat} {ret : Option FieldType} {rm : Room} {D : va_G} {dA : Nat → ClassId} {av : List Value} {ws : va_W} {sz mc ms : Nat} {Qc : (Nat → Prop) → Array Value → State → Outcome → State → Prop}
    (hy : plainName y.cls = true) (hlen : (lg_sl av).length ≤ maxL)
    (body : ∀ (A : Nat → Prop) (p : Program) (e : Env) (s : State) (m : MethodId) (below : List Frame) (meth : Method) (c : Code) (ls : Array Slot), s.heap.size = sz → bS p s m meth c cc ret maxL y D dA ws A av ls →
      W p l e rm s m av.toArray below meth c s.heap [] 0 0 (MQ below (Qc A) av.toArray s mc ms A) (F0 m 0 ls [])) :
    Met l y [Cond.code y cc maxL ret] rm (pC D dA av ws sz) (Qc (va_A ws sz)) mc ms (va_A ws sz) := by
  refine Met.ofW (cc := cc) (maxL := maxL) (ret := ret) hy rfl ?_
  intro p e s m args below meth c s₁ B hml hv
  obtain ⟨rfl, hsz, hP, hK, hD0, hE⟩ := hv
  have hA : ∀ q : Nat, s.heap.size ≤ q → va_A ws sz q := fun q h => by rw [← hsz]; exact Or.inr h
  have hl := lv_entry av (n := maxL) hlen
  rw [lg_entry_eq]
  exact body (va_A ws sz) p e s m below meth c _ hsz ⟨B.exec, B.bytes, B.returns, hml, findClass_of_methodNamed B.named, (name_of_methodNamed B.named B.method).1, B.notSynchronized, hE, hK, hP, hD0.self, va_S.rf, hA, fun H L h => by subst hsz; exact sK_of hP h, hl⟩
/-- the same of a method that throws -/
theorem mkX {l : Launch} {y : MethodName} {cc : ByteArray} {maxL : Nat} {ret : Option FieldType} {rm : Room} {D : va_G} {dA : Nat → ClassId} {av : List Value} {ws : va_W} {sz mc ms : Nat} {E : String} {B : (Nat → Prop) → State → State → Prop}
    (hy : plainName y.cls = true) (hlen : (lg_sl av).length ≤ maxL)
    (body : ∀ (A : Nat → Prop) (p : Program) (e : Env) (s : State) (m : MethodId) (below : List Frame) (meth : Method) (c : Code) (ls : Array Slot), s.heap.size = sz → (∀ z ∈ c.exceptionTable.toList, False) → bS p s m meth c cc ret maxL y D dA ws A av ls →
      W p l e rm s m av.toArray below meth c s.heap [] 0 0 (xQ below E (B A) s mc ms A) (F0 m 0 ls [])) :
    mX l y [Cond.code y cc maxL ret] rm (pC D dA av ws sz) E (B (va_A ws sz)) mc ms (va_A ws sz) := by
  refine mX.ofW (cc := cc) (maxL := maxL) (ret := ret) hy rfl ?_
  intro p e s m args below meth c s₁ B hml hno hv
  obtain ⟨rfl, hsz, hP, hK, hD0, hE⟩ := hv
  have hA : ∀ q : Nat, s.heap.size ≤ q → va_A ws sz q := fun q h => by rw [← hsz]; exact Or.inr h
  have hl := lv_entry av (n := maxL) hlen
  rw [lg_entry_eq]
  exact body (va_A ws sz) p e s m below meth c _ hsz hno ⟨B.exec, B.bytes, B.returns, hml, findClass_of_methodNamed B.named, (name_of_methodNamed B.named B.method).1, B.notSynchronized, hE, hK, hP, hD0.self, va_S.rf, hA, fun H L h => by subst hsz; exact sK_of hP h, hl⟩
/-- .. of a method with a table of its own -/
theorem mkW {l : Launch} {y : MethodName} {cc : ByteArray} {maxL : Nat} {ret : Option FieldType} {hh : List (Nat × Nat × Nat × Nat)} {rm : Room} {D : va_G} {dA : Nat → ClassId} {av : List Value} {ws : va_W} {sz mc ms : Nat} {Qc : (Nat → Prop) → Array Value → State → Outcome → State → Prop}
    (hy : plainName y.cls = true) (hlen : (lg_sl av).length ≤ maxL)
    (body : ∀ (A : Nat → Prop) (p : Program) (e : Env) (s : State) (m : MethodId) (below : List Frame) (meth : Method) (c : Code) (ls : Array Slot), s.heap.size = sz → c.exceptionTable.toList = tableOf hh → bS p s m meth c cc ret maxL y D dA ws A av ls →
      W p l e rm s m av.toArray below meth c s.heap [] 0 0 (MQ below (Qc A) av.toArray s mc ms A) (F0 m 0 ls [])) :
    Met l y [Cond.codeWith y cc maxL ret hh] rm (pC D dA av ws sz) (Qc (va_A ws sz)) mc ms (va_A ws sz) := by
  refine va_MetW (cc := cc) (maxL := maxL) (ret := ret) (hh := hh) hy rfl ?_
  intro p e s m args below meth c s₁ B hml hv
  obtain ⟨rfl, hsz, hP, hK, hD0, hE⟩ := hv
  have hA : ∀ q : Nat, s.heap.size ≤ q → va_A ws sz q := fun q h => by rw [← hsz]; exact Or.inr h
  have hl := lv_entry av (n := maxL) hlen
  rw [lg_entry_eq]
  exact body (va_A ws sz) p e s m below meth c _ hsz (tabOf B (atoms_spec (ws := [Cond.codeWith y cc maxL ret hh]) B.pre _ List.mem_cons_self)) ⟨B.exec, B.bytes, B.returns, hml, findClass_of_methodNamed B.named, (name_of_methodNamed B.named B.method).1, B.notSynchronized, hE, hK, hP, hD0.self, va_S.rf, hA, fun H L h => by subst hsz; exact sK_of hP h, hl⟩
section R2
variable {p : Program} {l : Launch} {e : Env} {R : Room} {s : State} {m : MethodId} {args : Array Value} {below : List Frame} {meth : Method} {c : Code} {H : Heap} {locs : List Loc} {cells slots : Nat} {Q : State → Prop}
variable {D : va_G} {dA : Nat → ClassId} {A : Nat → Prop} {cc : ByteArray} {pc : Nat} {ls : Array Slot} {rest st0 : List Value} {ws wc wr : va_W} {a : Nat} {own C host : String} {T : u_T} {N ci index : Nat} {fs : List Value} {v : Value}
theorem gF (hx : p.tables.exec = Jvm.exec) (hb : c.code = cc) (hown : s.vm.findClass own = some m.cls) (hE : eV s) (hK : va_K D vwCl (arT dA) s) (hP : va_P D vwCl ws H) (q0 : Nat) (he : ws[q0]? = some (a, .inr (ci, fs))) (hc : vwCl[ci]? = some (C, T, N)) (hlay : ∀ w ∈ u_ws C T N, w ∈ aW) (k : Nat) (hk : k < N)
    (hlink : Cond.fieldLink own index (T k).1 (T k).2.1 (T k).2.2.1 ∈ aW) (hv : fs[k]? = some v) (hdg : decode cc pc = .ok (.getfield index, 3)) (kk : W p l e R s m args below meth c H locs cells slots Q (F0 m (pc + 3) ls (v :: rest))) : W p l e R s m args below meth c H locs cells slots Q (F0 m pc ls (.ref a :: rest)) :=
  va_get hx hb (hLay hE hlay) (fun _ h => h) hown hK hP q0 he hc k hk (hE.t hlink rfl) (fun _ h => h) hv hdg kk
theorem gFN (hx : p.tables.exec = Jvm.exec) (hb : c.code = cc) (hown : s.vm.findClass own = some m.cls) (hE : eV s) (hK : va_K D vwCl (arT dA) s) (hP : va_P D vwCl ws H) (q0 : Nat) (he : ws[q0]? = some (a, .inr (ci, fs))) (hc : vwCl[ci]? = some (C, T, N)) (hlay : ∀ w ∈ u_ws C T N, w ∈ aW) (k : Nat) (hk : k < N)
    (hlink : Cond.fieldLinkNest own index (T k).1 (T k).2.1 (T k).2.2.1 host ∈ aW) (hv : fs[k]? = some v) (hdg : decode cc pc = .ok (.getfield index, 3)) (kk : W p l e R s m args below meth c H locs cells slots Q (F0 m (pc + 3) ls (v :: rest))) : W p l e R s m args below meth c H locs cells slots Q (F0 m pc ls (.ref a :: rest)) :=
  va_getN hx hb (hLay hE hlay) (fun _ h => h) hown hK hP q0 he hc k hk (hE.t hlink rfl) (fun _ h => h) hv hdg kk
theorem pF (hx : p.tables.exec = Jvm.exec) (hb : c.code = cc) (hown : s.vm.findClass own = some m.cls) (hE : eV s) (hK : va_K D vwCl (arT dA) s) (hP : va_P D vwCl ws H) (hD : va_D A ws) (hS : va_S A s.heap H locs) (q0 : Nat) (he : ws[q0]? = some (a, .inr (ci, fs))) (hc : vwCl[ci]? = some (C, T, N)) (hlay : ∀ w ∈ u_ws C T N, w ∈ aW) (ty0 : Nat → FieldType) (hty : ∀ k, k < N → parseFieldDescriptor (T k).2.2.1 = some (ty0 k)) (hnm : ∀ a, a < N → ∀ b, b < N → a ≠ b → (T a).2.1 ≠ (T b).2.1) (k : Nat) (hk : k < N)
    (hlink : Cond.fieldLink own index (T k).1 (T k).2.1 (T k).2.2.1 ∈ aW) (hfin : (T k).2.2.2 = false) (hn : narrow (ty0 k) v = v) (hfit : fits (ty0 k) v = true) (hl : k < fs.length) (hdg : decode cc pc = .ok (.putfield index, 3))
    (kk : ∀ (H1 : Heap) (locs1 : List Loc), va_P D vwCl (ws.set q0 (a, .inr (ci, fs.set k v))) H1 → va_D A (ws.set q0 (a, .inr (ci, fs.set k v))) → va_S A s.heap H1 locs1 → W p l e R s m args below meth c H1 locs1 cells slots Q (F0 m (pc + 3) ls rest)) : W p l e R s m args below meth c H locs cells slots Q (F0 m pc ls (v :: .ref a :: rest)) :=
  va_put hx hb (hLay hE hlay) (fun _ h => h) ty0 hty hnm hown hK hP hD hS q0 he hc k hk (hE.t hlink rfl) (fun _ h => h) hfin (hty k hk) hn hfit hl hdg kk
theorem pFN (hx : p.tables.exec = Jvm.exec) (hb : c.code = cc) (hown : s.vm.findClass own = some m.cls) (hE : eV s) (hK : va_K D vwCl (arT dA) s) (hP : va_P D vwCl ws H) (hD : va_D A ws) (hS : va_S A s.heap H locs) (q0 : Nat) (he : ws[q0]? = some (a, .inr (ci, fs))) (hc : vwCl[ci]? = some (C, T, N)) (hlay : ∀ w ∈ u_ws C T N, w ∈ aW) (ty0 : Nat → FieldType) (hty : ∀ k, k < N → parseFieldDescriptor (T k).2.2.1 = some (ty0 k)) (hnm : ∀ a, a < N → ∀ b, b < N → a ≠ b → (T a).2.1 ≠ (T b).2.1) (k : Nat) (hk : k < N)
    (hlink : Cond.fieldLinkNest own index (T k).1 (T k).2.1 (T k).2.2.1 host ∈ aW) (hfin : (T k).2.2.2 = false) (hn : narrow (ty0 k) v = v) (hfit : fits (ty0 k) v = true) (hl : k < fs.length) (hdg : decode cc pc = .ok (.putfield index, 3))
    (kk : ∀ (H1 : Heap) (locs1 : List Loc), va_P D vwCl (ws.set q0 (a, .inr (ci, fs.set k v))) H1 → va_D A (ws.set q0 (a, .inr (ci, fs.set k v))) → va_S A s.heap H1 locs1 → W p l e R s m args below meth c H1 locs1 cells slots Q (F0 m (pc + 3) ls rest)) : W p l e R s m args below meth c H locs cells slots Q (F0 m pc ls (v :: .ref a :: rest)) :=
  va_putN hx hb (hLay hE hlay) (fun _ h => h) ty0 hty hnm hown hK hP hD hS q0 he hc k hk (hE.t hlink rfl) (fun _ h => h) hfin (hty k hk) hn hfit hl hdg kk
theorem pFF (hx : p.tables.exec = Jvm.exec) (hb : c.code = cc) (hown : s.vm.findClass own = some m.cls) (hE : eV s) (hK : va_K D vwCl (arT dA) s) (hP : va_P D vwCl ws H) (hD : va_D A ws) (hS : va_S A s.heap H locs) (q0 : Nat) (he : ws[q0]? = some (a, .inr (ci, fs))) (hc : vwCl[ci]? = some (C, T, N)) (hlay : ∀ w ∈ u_ws C T N, w ∈ aW) (ty0 : Nat → FieldType) (hty : ∀ k, k < N → parseFieldDescriptor (T k).2.2.1 = some (ty0 k)) (hnm : ∀ a, a < N → ∀ b, b < N → a ≠ b → (T a).2.1 ≠ (T b).2.1) (k : Nat) (hk : k < N)
    (hlink : Cond.fieldLink own index (T k).1 (T k).2.1 (T k).2.2.1 ∈ aW) (hfin : (T k).2.2.2 = true) (hin : meth.name = "<init>") (hdecl : (T k).1 = own) (hn : narrow (ty0 k) v = v) (hfit : fits (ty0 k) v = true) (hl : k < fs.length) (hdg : decode cc pc = .ok (.putfield index, 3))
    (kk : ∀ (H1 : Heap) (locs1 : List Loc), va_P D vwCl (ws.set q0 (a, .inr (ci, fs.set k v))) H1 → va_D A (ws.set q0 (a, .inr (ci, fs.set k v))) → va_S A s.heap H1 locs1 → W p l e R s m args below meth c H1 locs1 cells slots Q (F0 m (pc + 3) ls rest)) : W p l e R s m args below meth c H locs cells slots Q (F0 m pc ls (v :: .ref a :: rest)) :=
  va_putF hx hb (hLay hE hlay) (fun _ h => h) ty0 hty hnm hown hK hP hD hS q0 he hc k hk (hE.t hlink rfl) (fun _ h => h) hfin hin hdecl (hty k hk) hn hfit hl hdg kk
theorem nO (hx : p.tables.exec = Jvm.exec) (hb : c.code = cc) (hown : s.vm.findClass own = some m.cls) (hE : eV s) (hK : va_K D vwCl (arT dA) s) (hP : va_P D vwCl ws H) (hD : va_D A ws) (hS : va_S A s.heap H locs) (hA : ∀ q, s.heap.size ≤ q → A q) (hc : vwCl[ci]? = some (C, T, N)) (hlay : ∀ w ∈ u_ws C T N, w ∈ aW) (ty0 : Nat → FieldType) (hty : ∀ k, k < N → parseFieldDescriptor (T k).2.2.1 = some (ty0 k))
    (hcl : Cond.classLink own index C ∈ aW) (hinst : Cond.instantiable C N ∈ aW) (hini : Cond.initialized C ∈ aW) (hfs : ∀ j, j < N → defaultValue (ty0 j) = vp_V fs j) (hcells : cells + 1 ≤ R.cells) (hslots : slots + N ≤ R.slots) (hdg : decode cc pc = .ok (.new index, 3))
    (kk : ∀ (q : Nat) (H1 : Heap), va_P D vwCl (ws ++ [(q, .inr (ci, fs))]) H1 → va_D A (ws ++ [(q, .inr (ci, fs))]) → va_S A s.heap H1 locs → W p l e R s m args below meth c H1 locs (cells + 1) (slots + N) Q (F0 m (pc + 3) ls (.ref q :: rest))) : W p l e R s m args below meth c H locs cells slots Q (F0 m pc ls rest) :=
  va_new hx hb (hLay hE hlay) (fun _ h => h) ty0 hty hown (hE.t hcl rfl) (hE.t hinst rfl) (hE.t hini rfl) hK hP hD hS hA hc hfs hcells hslots hdg kk
theorem oI (hx : p.tables.exec = Jvm.exec) (hb : c.code = cc) (hown : s.vm.findClass own = some m.cls) (hE : eV s) (hl : Cond.methodLink own index ⟨"java/lang/Object", "<init>", "()V"⟩ ∈ aW) (hi : Cond.instanceMethod ⟨"java/lang/Object", "<init>", "()V"⟩ ∈ aW) (hc : Cond.code ⟨"java/lang/Object", "<init>", "()V"⟩ object_method_1_code 1 none ∈ aW)
    (hsize : ls.size = c.maxLocals) (hdg : decode cc pc = .ok (.invokespecial index, 3)) (hframes : 1 ≤ R.frames) (hlocals : (rest.map fun v => v.category).sum + 12 ≤ R.locals)
    (kk : W p l e R s m args below meth c H locs cells slots Q (F0 m (pc + 3) ls rest)) : W p l e R s m args below meth c H locs cells slots Q (F0 m pc ls (.ref a :: rest)) :=
  W.objInit hx hb hown (hE.t hl rfl) (hE.t hi rfl) (hE.t hc rfl) rfl hsize rfl hdg hframes (by simpa using hlocals) kk
theorem wSub {w1 : va_W} {t : State} (hP : va_P D vwCl ws H) (hD : va_D A ws) (isR : List Nat) (hs : isR.filterMap (fun i => ws[i]?) = w1) (hs2 : isR.map (fun i => ws[i]?) = w1.map some) (hn : va_nd isR = true) (ht : t.heap = H) : bW D A w1 t := ⟨by rw [ht]; exact hP.sub isR hs, hD.sub isR hn hs2⟩
theorem rtV {S : Type} {post : S → Prop} {w1 : S → va_W} {mc ms : Nat} (hx : p.tables.exec = Jvm.exec) (hb : c.code = cc) (hr : meth.sig.returnType = none) (hlk : meth.locks = false) (hP : va_P D vwCl ws H) (hD : va_D A ws) (hS : va_S A s.heap H locs) (u : S) (hp : post u) (isR : List Nat) (hs : isR.filterMap (fun i => ws[i]?) = w1 u) (hs2 : isR.map (fun i => ws[i]?) = (w1 u).map some) (hn : va_nd isR = true) (hc : cells ≤ mc) (hsl : slots ≤ ms) (hdg : decode cc pc = .ok (.return_, 1)) :
    W p l e R s m args below meth c H locs cells slots (MQ below (va_Qv post (fun u t => bW D A (w1 u) t) A) args s mc ms A) (F0 m pc ls []) :=
  W.widen hc hsl (W.vret hx hb hr (fun t ht _ => ⟨⟨u, rfl, hp, wSub hP hD isR hs hs2 hn ht⟩, hS.F ht⟩) hS.2.2 hdg hlk)
theorem rtI {S : Type} {post : Int32 → S → Prop} {w1 : S → va_W} {mc ms : Nat} {x : Int32} (hx : p.tables.exec = Jvm.exec) (hb : c.code = cc) (hr : meth.sig.returnType = some .int) (hlk : meth.locks = false) (hP : va_P D vwCl ws H) (hD : va_D A ws) (hS : va_S A s.heap H locs) (u : S) (hp : post x u) (isR : List Nat) (hs : isR.filterMap (fun i => ws[i]?) = w1 u) (hs2 : isR.map (fun i => ws[i]?) = (w1 u).map some) (hn : va_nd isR = true) (hc : cells ≤ mc) (hsl : slots ≤ ms) (hdg : decode cc pc = .ok (.ireturn, 1)) :
    W p l e R s m args below meth c H locs cells slots (MQ below (va_Qi post (fun u t => bW D A (w1 u) t) A) args s mc ms A) (F0 m pc ls [.int x]) :=
  W.widen hc hsl (W.iret hx hb hr (fun t ht _ => ⟨⟨x, u, rfl, hp, wSub hP hD isR hs hs2 hn ht⟩, hS.F ht⟩) hS.2.2 hdg hlk)
theorem rtZ {S : Type} {post : Int32 → S → Prop} {w1 : S → va_W} {mc ms : Nat} {x : Int32} (hx : p.tables.exec = Jvm.exec) (hb : c.code = cc) (hr : meth.sig.returnType = some .boolean) (hz : narrow .boolean (.int x) = .int x) (hlk : meth.locks = false) (hP : va_P D vwCl ws H) (hD : va_D A ws) (hS : va_S A s.heap H locs) (u : S) (hp : post x u) (isR : List Nat) (hs : isR.filterMap (fun i => ws[i]?) = w1 u) (hs2 : isR.map (fun i => ws[i]?) = (w1 u).map some) (hn : va_nd isR = true) (hc : cells ≤ mc) (hsl : slots ≤ ms) (hdg : decode cc pc = .ok (.ireturn, 1)) :
    W p l e R s m args below meth c H locs cells slots (MQ below (va_Qi post (fun u t => bW D A (w1 u) t) A) args s mc ms A) (F0 m pc ls [.int x]) :=
  W.widen hc hsl (W.zret hx hb hr hz (fun t ht _ => ⟨⟨x, u, rfl, hp, wSub hP hD isR hs hs2 hn ht⟩, hS.F ht⟩) hS.2.2 hdg hlk)
theorem rtL {S : Type} {post : Int64 → S → Prop} {w1 : S → va_W} {mc ms : Nat} {x : Int64} (hx : p.tables.exec = Jvm.exec) (hb : c.code = cc) (hr : meth.sig.returnType = some .long) (hlk : meth.locks = false) (hP : va_P D vwCl ws H) (hD : va_D A ws) (hS : va_S A s.heap H locs) (u : S) (hp : post x u) (isR : List Nat) (hs : isR.filterMap (fun i => ws[i]?) = w1 u) (hs2 : isR.map (fun i => ws[i]?) = (w1 u).map some) (hn : va_nd isR = true) (hc : cells ≤ mc) (hsl : slots ≤ ms) (hdg : decode cc pc = .ok (.lreturn, 1)) :
    W p l e R s m args below meth c H locs cells slots (MQ below (va_Ql post (fun u t => bW D A (w1 u) t) A) args s mc ms A) (F0 m pc ls [.long x]) :=
  W.widen hc hsl (W.lret hx hb hr (fun t ht _ => ⟨⟨x, u, rfl, hp, wSub hP hD isR hs hs2 hn ht⟩, hS.F ht⟩) hS.2.2 hdg hlk)
theorem rtR {S : Type} {post : S → Prop} {w1 : S → Nat → va_W} {mc ms : Nat} {rt : FieldType} {x : Nat} (hx : p.tables.exec = Jvm.exec) (hb : c.code = cc) (hr : meth.sig.returnType = some rt) (hrt : (∃ n, rt = .object n) ∨ ∃ t, rt = .array t) (hlk : meth.locks = false) (hP : va_P D vwCl ws H) (hD : va_D A ws) (hS : va_S A s.heap H locs) (u : S) (hp : post u) (isR : List Nat) (hs : isR.filterMap (fun i => ws[i]?) = w1 u x) (hs2 : isR.map (fun i => ws[i]?) = (w1 u x).map some) (hn : va_nd isR = true) (hc : cells ≤ mc) (hsl : slots ≤ ms) (hdg : decode cc pc = .ok (.areturn, 1)) :
    W p l e R s m args below meth c H locs cells slots (MQ below (va_Qr post (fun u ra t => bW D A (w1 u ra) t) A) args s mc ms A) (F0 m pc ls [.ref x]) :=
  W.widen hc hsl (W.aret hx hb hr hrt (Or.inr ⟨x, rfl⟩) (fun t ht _ => ⟨⟨u, x, rfl, hp, wSub hP hD isR hs hs2 hn ht⟩, hS.F ht⟩) hS.2.2 hdg hlk)
/-- what holds behind a throw -/
theorem xEnd {w1 : va_W} (hP : va_P D vwCl ws H) (hD : va_D A ws) (hS : va_S A s.heap H locs) (isR : List Nat) (hs : isR.filterMap (fun i => ws[i]?) = w1) (hs2 : isR.map (fun i => ws[i]?) = w1.map some) (hn : va_nd isR = true) (t : State) (h1 : H.size ≤ t.heap.size) (h2 : ∀ q : Nat, q < H.size → t.heap[q]? = H[q]?) : va_F A s t ∧ bW D A w1 t := by
  refine ⟨⟨Nat.le_trans hS.1 h1, fun q g1 g2 => (h2 q (Nat.lt_of_lt_of_le g1 hS.1)).trans (hS.2.1 q g1 g2)⟩, ?_, hD.sub isR hn hs2⟩
  have hk : va_P D vwCl ws t.heap := hP.kept (fun k q hq => h2 _ (hP k q hq).lt)
  exact hk.sub isR hs
end R2
end
section
/-! A value on top of the stack by another name. -/
section TP
variable {p : Program} {l : Launch} {e : Env} {R : Room} {s : State} {m : MethodId} {args : Array Value} {below : List Frame} {meth : Method} {c : Code} {H : Heap} {locs : List Loc} {cells slots : Nat} {Q : State → Prop} {pc : Nat} {ls : Array Slot} {rest : List Value}
theorem tpi {x y : Int32} (h : x = y) (k : W p l e R s m args below meth c H locs cells slots Q (F0 m pc ls (.int y :: rest))) : W p l e R s m args below meth c H locs cells slots Q (F0 m pc ls (.int x :: rest)) := by rw [h]; exact k
theorem tpl {x y : Int64} (h : x = y) (k : W p l e R s m args below meth c H locs cells slots Q (F0 m pc ls (.long y :: rest))) : W p l e R s m args below meth c H locs cells slots Q (F0 m pc ls (.long x :: rest)) := by rw [h]; exact k
end TP
theorem ho_1 {s : State} {args : Array Value} {C n d : String} (h : (Cond.laysStatic C n d).before #[] s = true) : (Cond.laysStatic C n d).before args s = true := h
theorem ho_2 {s : State} {args : Array Value} {C n d : String} (h : (Cond.isRef (.static C n d)).before #[] s = true) : (Cond.isRef (.static C n d)).before args s = true := h
end
section
theorem d_P_init_0 : decode prog_5_method_1_code 0 = .ok (.aload_n 0, 1) := by decide +kernel
theorem d_P_init_1 : decode prog_5_method_1_code 1 = .ok (.invokespecial 1, 3) := by decide +kernel
theorem d_P_init_4 : decode prog_5_method_1_code 4 = .ok (.aload_n 0, 1) := by decide +kernel
theorem d_P_init_5 : decode prog_5_method_1_code 5 = .ok (.bipush 32, 2) := by decide +kernel
theorem d_P_init_7 : decode prog_5_method_1_code 7 = .ok (.newarray .int, 2) := by decide +kernel
theorem d_P_init_9 : decode prog_5_method_1_code 9 = .ok (.putfield 7, 3) := by decide +kernel
theorem d_P_init_12 : decode prog_5_method_1_code 12 = .ok (.aload_n 0, 1) := by decide +kernel
theorem d_P_init_13 : decode prog_5_method_1_code 13 = .ok (.bipush 32, 2) := by decide +kernel
theorem d_P_init_15 : decode prog_5_method_1_code 15 = .ok (.newarray .long, 2) := by decide +kernel
theorem d_P_init_17 : decode prog_5_method_1_code 17 = .ok (.putfield 13, 3) := by decide +kernel
theorem d_P_init_20 : decode prog_5_method_1_code 20 = .ok (.aload_n 0, 1) := by decide +kernel
theorem d_P_init_21 : decode prog_5_method_1_code 21 = .ok (.bipush 32, 2) := by decide +kernel
theorem d_P_init_23 : decode prog_5_method_1_code 23 = .ok (.newarray .long, 2) := by decide +kernel
theorem d_P_init_25 : decode prog_5_method_1_code 25 = .ok (.putfield 17, 3) := by decide +kernel
theorem d_P_init_28 : decode prog_5_method_1_code 28 = .ok (.return_, 1) := by decide +kernel
theorem w181 : Cond.methodLink "SeriesVault$Points" 1 ⟨"java/lang/Object", "<init>", "()V"⟩ ∈ aW := aw_of (tb_1 (List.mem_of_getElem? (i := 109) rfl)) rfl
theorem w182 : Cond.instanceMethod ⟨"java/lang/Object", "<init>", "()V"⟩ ∈ aW := aw_of (tb_1 (List.mem_of_getElem? (i := 44) rfl)) rfl
theorem w183 : Cond.code ⟨"java/lang/Object", "<init>", "()V"⟩ object_method_1_code 1 none ∈ aW := aw_of (tb_1 (List.mem_of_getElem? (i := 45) rfl)) rfl
theorem w184 : Cond.arrayClass FieldType.int ∈ aW := aw_of (tb_1 (List.mem_of_getElem? (i := 102) rfl)) rfl
theorem w185 : Cond.fieldLink "SeriesVault$Points" 7 "SeriesVault$Points" "owners" "[I" ∈ aW := aw_of (tb_1 (List.mem_of_getElem? (i := 110) rfl)) rfl
theorem w186 : Cond.arrayClass FieldType.long ∈ aW := aw_of (tb_1 (List.mem_of_getElem? (i := 103) rfl)) rfl
theorem w187 : Cond.fieldLink "SeriesVault$Points" 13 "SeriesVault$Points" "times" "[J" ∈ aW := aw_of (tb_1 (List.mem_of_getElem? (i := 113) rfl)) rfl
theorem w188 : Cond.fieldLink "SeriesVault$Points" 17 "SeriesVault$Points" "values" "[J" ∈ aW := aw_of (tb_1 (List.mem_of_getElem? (i := 116) rfl)) rfl
set_option maxHeartbeats 4000000 in
set_option maxRecDepth 100000 in
theorem c_P_init (l : Launch) (D : va_G) (dA : Nat → ClassId) (sz : Nat) (h : Nat) : Met l ⟨"SeriesVault$Points", "<init>", "()V"⟩ [Cond.code ⟨"SeriesVault$Points", "<init>", "()V"⟩ prog_5_method_1_code 1 none] { frames := 1, cells := 3, slots := 96, locals := 12 } (pC D dA [.ref h] [(h, .inr (2, [.null, .null, .null, .int 0]))] sz) (va_Qv (fun (_ : Nat × Nat × Nat) => True) (fun (u9 : Nat × Nat × Nat) t9 => bW D (va_A [(h, .inr (2, [.null, .null, .null, .int 0]))] sz) [(h, .inr (2, [.ref u9.1, .ref u9.2.1, .ref u9.2.2, .int 0])), (u9.1, .inl (dA 1, 32, .inl (fun _ => 0))), (u9.2.1, .inl (dA 2, 32, .inr (.inl (fun _ => 0)))), (u9.2.2, .inl (dA 2, 32, .inr (.inl (fun _ => 0))))] t9) (va_A [(h, .inr (2, [.null, .null, .null, .int 0]))] sz)) 3 96 (va_A [(h, .inr (2, [.null, .null, .null, .int 0]))] sz) := by
  refine mkC (Qc := fun A => va_Qv (fun (_ : Nat × Nat × Nat) => True) (fun (u9 : Nat × Nat × Nat) t9 => bW D A [(h, .inr (2, [.ref u9.1, .ref u9.2.1, .ref u9.2.2, .int 0])), (u9.1, .inl (dA 1, 32, .inl (fun _ => 0))), (u9.2.1, .inl (dA 2, 32, .inr (.inl (fun _ => 0)))), (u9.2.2, .inl (dA 2, 32, .inr (.inl (fun _ => 0))))] t9) A) (by decide) (Nat.le_of_ble_eq_true rfl) ?_
  intro A p e s m below meth c ls hsz hB
  obtain ⟨hx, hb, hr, hml, hown, hin, hlk, hE, hK, hP, hD, hS, hA, hN, hl⟩ := hB
  have hown : s.vm.findClass "SeriesVault$Points" = some m.cls := hown
  have hin : meth.name = "<init>" := hin
  have hl : lv_has ls 1 [(0, .ref h)] := hl
  obtain ⟨H, hH⟩ : ∃ z, z = s.heap := ⟨_, rfl⟩
  have hP : va_P D vwCl [(h, .inr (2, [.null, .null, .null, .int 0]))] H := by rw [hH]; exact hP
  have hS : va_S A s.heap H [] := by rw [hH]; exact hS
  rw [← hH]
  refine lv_aload_n hx hb d_P_init_0 rfl (lv_at hl 0 rfl) ?_
  refine oI hx hb hown hE w181 w182 w183 (hl.1.trans hml.symm) d_P_init_1 (Nat.le_of_ble_eq_true rfl) (Nat.le_of_ble_eq_true rfl) ?_
  refine lv_aload_n hx hb d_P_init_4 rfl (lv_at hl 0 rfl) ?_
  refine lv_bipush (v := 32) hx hb d_P_init_5 (by decide) ?_
  refine nwA (atype := .int) (ty := .int) (n := 32) (N' := 32) (a0 := (32, .inl (fun _ => 0))) hx hb hE rfl w184 hK hP hD hS hA 1 rfl (fun _ => rfl) (by decide) (by decide) (Nat.le_of_ble_eq_true rfl) (Nat.le_of_ble_eq_true rfl) (Nat.le_of_ble_eq_true rfl) d_P_init_7 (fun q1 H hP hD hS => ?_)
  have hP : va_P D vwCl [(h, .inr (2, [.null, .null, .null, .int 0])), (q1, .inl (dA 1, 32, .inl (fun _ => 0)))] H := hP
  have hD : va_D A [(h, .inr (2, [.null, .null, .null, .int 0])), (q1, .inl (dA 1, 32, .inl (fun _ => 0)))] := hD
  refine pF hx hb hown hE hK hP hD hS 0 rfl rfl layP tyP tokP nmP 0 (by decide) w185 rfl rfl rfl (Nat.le_of_ble_eq_true rfl) d_P_init_9 (fun H locs hP hD hS => ?_)
  have hP : va_P D vwCl [(h, .inr (2, [.ref q1, .null, .null, .int 0])), (q1, .inl (dA 1, 32, .inl (fun _ => 0)))] H := hP
  have hD : va_D A [(h, .inr (2, [.ref q1, .null, .null, .int 0])), (q1, .inl (dA 1, 32, .inl (fun _ => 0)))] := hD
  refine lv_aload_n hx hb d_P_init_12 rfl (lv_at hl 0 rfl) ?_
  refine lv_bipush (v := 32) hx hb d_P_init_13 (by decide) ?_
  refine nwA (atype := .long) (ty := .long) (n := 32) (N' := 32) (a0 := (32, .inr (.inl (fun _ => 0)))) hx hb hE rfl w186 hK hP hD hS hA 2 rfl (fun _ => rfl) (by decide) (by decide) (Nat.le_of_ble_eq_true rfl) (Nat.le_of_ble_eq_true rfl) (Nat.le_of_ble_eq_true rfl) d_P_init_15 (fun q2 H hP hD hS => ?_)
  have hP : va_P D vwCl [(h, .inr (2, [.ref q1, .null, .null, .int 0])), (q1, .inl (dA 1, 32, .inl (fun _ => 0))), (q2, .inl (dA 2, 32, .inr (.inl (fun _ => 0))))] H := hP
  have hD : va_D A [(h, .inr (2, [.ref q1, .null, .null, .int 0])), (q1, .inl (dA 1, 32, .inl (fun _ => 0))), (q2, .inl (dA 2, 32, .inr (.inl (fun _ => 0))))] := hD
  refine pF hx hb hown hE hK hP hD hS 0 rfl rfl layP tyP tokP nmP 1 (by decide) w187 rfl rfl rfl (Nat.le_of_ble_eq_true rfl) d_P_init_17 (fun H locs hP hD hS => ?_)
  have hP : va_P D vwCl [(h, .inr (2, [.ref q1, .ref q2, .null, .int 0])), (q1, .inl (dA 1, 32, .inl (fun _ => 0))), (q2, .inl (dA 2, 32, .inr (.inl (fun _ => 0))))] H := hP
  have hD : va_D A [(h, .inr (2, [.ref q1, .ref q2, .null, .int 0])), (q1, .inl (dA 1, 32, .inl (fun _ => 0))), (q2, .inl (dA 2, 32, .inr (.inl (fun _ => 0))))] := hD
  refine lv_aload_n hx hb d_P_init_20 rfl (lv_at hl 0 rfl) ?_
  refine lv_bipush (v := 32) hx hb d_P_init_21 (by decide) ?_
  refine nwA (atype := .long) (ty := .long) (n := 32) (N' := 32) (a0 := (32, .inr (.inl (fun _ => 0)))) hx hb hE rfl w186 hK hP hD hS hA 2 rfl (fun _ => rfl) (by decide) (by decide) (Nat.le_of_ble_eq_true rfl) (Nat.le_of_ble_eq_true rfl) (Nat.le_of_ble_eq_true rfl) d_P_init_23 (fun q3 H hP hD hS => ?_)
  have hP : va_P D vwCl [(h, .inr (2, [.ref q1, .ref q2, .null, .int 0])), (q1, .inl (dA 1, 32, .inl (fun _ => 0))), (q2, .inl (dA 2, 32, .inr (.inl (fun _ => 0)))), (q3, .inl (dA 2, 32, .inr (.inl (fun _ => 0))))] H := hP
  have hD : va_D A [(h, .inr (2, [.ref q1, .ref q2, .null, .int 0])), (q1, .inl (dA 1, 32, .inl (fun _ => 0))), (q2, .inl (dA 2, 32, .inr (.inl (fun _ => 0)))), (q3, .inl (dA 2, 32, .inr (.inl (fun _ => 0))))] := hD
  refine pF hx hb hown hE hK hP hD hS 0 rfl rfl layP tyP tokP nmP 2 (by decide) w188 rfl rfl rfl (Nat.le_of_ble_eq_true rfl) d_P_init_25 (fun H locs hP hD hS => ?_)
  have hP : va_P D vwCl [(h, .inr (2, [.ref q1, .ref q2, .ref q3, .int 0])), (q1, .inl (dA 1, 32, .inl (fun _ => 0))), (q2, .inl (dA 2, 32, .inr (.inl (fun _ => 0)))), (q3, .inl (dA 2, 32, .inr (.inl (fun _ => 0))))] H := hP
  have hD : va_D A [(h, .inr (2, [.ref q1, .ref q2, .ref q3, .int 0])), (q1, .inl (dA 1, 32, .inl (fun _ => 0))), (q2, .inl (dA 2, 32, .inr (.inl (fun _ => 0)))), (q3, .inl (dA 2, 32, .inr (.inl (fun _ => 0))))] := hD
  exact rtV hx hb hr hlk hP hD hS (q1, q2, q3) trivial [0, 1, 2, 3] rfl rfl (by decide) (Nat.le_of_ble_eq_true rfl) (Nat.le_of_ble_eq_true rfl) d_P_init_28
theorem d_J_init_0 : decode prog_3_method_1_code 0 = .ok (.aload_n 0, 1) := by decide +kernel
theorem d_J_init_1 : decode prog_3_method_1_code 1 = .ok (.invokespecial 3, 3) := by decide +kernel
theorem d_J_init_4 : decode prog_3_method_1_code 4 = .ok (.aload_n 0, 1) := by decide +kernel
theorem d_J_init_5 : decode prog_3_method_1_code 5 = .ok (.bipush 32, 2) := by decide +kernel
theorem d_J_init_7 : decode prog_3_method_1_code 7 = .ok (.newarray .int, 2) := by decide +kernel
theorem d_J_init_9 : decode prog_3_method_1_code 9 = .ok (.putfield 9, 3) := by decide +kernel
theorem d_J_init_12 : decode prog_3_method_1_code 12 = .ok (.aload_n 0, 1) := by decide +kernel
theorem d_J_init_13 : decode prog_3_method_1_code 13 = .ok (.bipush 32, 2) := by decide +kernel
theorem d_J_init_15 : decode prog_3_method_1_code 15 = .ok (.newarray .int, 2) := by decide +kernel
theorem d_J_init_17 : decode prog_3_method_1_code 17 = .ok (.putfield 15, 3) := by decide +kernel
theorem d_J_init_20 : decode prog_3_method_1_code 20 = .ok (.aload_n 0, 1) := by decide +kernel
theorem d_J_init_21 : decode prog_3_method_1_code 21 = .ok (.bipush 32, 2) := by decide +kernel
theorem d_J_init_23 : decode prog_3_method_1_code 23 = .ok (.newarray .int, 2) := by decide +kernel
theorem d_J_init_25 : decode prog_3_method_1_code 25 = .ok (.putfield 18, 3) := by decide +kernel
theorem d_J_init_28 : decode prog_3_method_1_code 28 = .ok (.aload_n 0, 1) := by decide +kernel
theorem d_J_init_29 : decode prog_3_method_1_code 29 = .ok (.bipush 32, 2) := by decide +kernel
theorem d_J_init_31 : decode prog_3_method_1_code 31 = .ok (.newarray .int, 2) := by decide +kernel
theorem d_J_init_33 : decode prog_3_method_1_code 33 = .ok (.putfield 21, 3) := by decide +kernel
theorem d_J_init_36 : decode prog_3_method_1_code 36 = .ok (.aload_n 0, 1) := by decide +kernel
theorem d_J_init_37 : decode prog_3_method_1_code 37 = .ok (.bipush 32, 2) := by decide +kernel
theorem d_J_init_39 : decode prog_3_method_1_code 39 = .ok (.newarray .long, 2) := by decide +kernel
theorem d_J_init_41 : decode prog_3_method_1_code 41 = .ok (.putfield 24, 3) := by decide +kernel
theorem d_J_init_44 : decode prog_3_method_1_code 44 = .ok (.aload_n 0, 1) := by decide +kernel
theorem d_J_init_45 : decode prog_3_method_1_code 45 = .ok (.bipush 32, 2) := by decide +kernel
theorem d_J_init_47 : decode prog_3_method_1_code 47 = .ok (.newarray .long, 2) := by decide +kernel
theorem d_J_init_49 : decode prog_3_method_1_code 49 = .ok (.putfield 28, 3) := by decide +kernel
theorem d_J_init_52 : decode prog_3_method_1_code 52 = .ok (.return_, 1) := by decide +kernel
theorem w189 : Cond.methodLink "SeriesVault$Journal" 3 ⟨"java/lang/Object", "<init>", "()V"⟩ ∈ aW := aw_of (tb_1 (List.mem_of_getElem? (i := 51) rfl)) rfl
theorem w190 : Cond.fieldLink "SeriesVault$Journal" 9 "SeriesVault$Journal" "kinds" "[I" ∈ aW := aw_of (tb_1 (List.mem_of_getElem? (i := 52) rfl)) rfl
theorem w191 : Cond.fieldLink "SeriesVault$Journal" 15 "SeriesVault$Journal" "owners" "[I" ∈ aW := aw_of (tb_1 (List.mem_of_getElem? (i := 54) rfl)) rfl
theorem w192 : Cond.fieldLink "SeriesVault$Journal" 18 "SeriesVault$Journal" "unitsOf" "[I" ∈ aW := aw_of (tb_1 (List.mem_of_getElem? (i := 56) rfl)) rfl
theorem w193 : Cond.fieldLink "SeriesVault$Journal" 21 "SeriesVault$Journal" "blocksOf" "[I" ∈ aW := aw_of (tb_1 (List.mem_of_getElem? (i := 57) rfl)) rfl
theorem w194 : Cond.fieldLink "SeriesVault$Journal" 24 "SeriesVault$Journal" "firsts" "[J" ∈ aW := aw_of (tb_1 (List.mem_of_getElem? (i := 58) rfl)) rfl
theorem w195 : Cond.fieldLink "SeriesVault$Journal" 28 "SeriesVault$Journal" "seconds" "[J" ∈ aW := aw_of (tb_1 (List.mem_of_getElem? (i := 60) rfl)) rfl
set_option maxHeartbeats 4000000 in
set_option maxRecDepth 100000 in
theorem c_J_init (l : Launch) (D : va_G) (dA : Nat → ClassId) (sz : Nat) (h : Nat) : Met l ⟨"SeriesVault$Journal", "<init>", "()V"⟩ [Cond.code ⟨"SeriesVault$Journal", "<init>", "()V"⟩ prog_3_method_1_code 1 none] { frames := 1, cells := 6, slots := 192, locals := 12 } (pC D dA [.ref h] [(h, .inr (1, [.null, .null, .null, .null, .null, .null, .int 0, .int 0, .int 0, .int 0, .int 0, .int 0, .int 0]))] sz) (va_Qv (fun (_ : Nat × Nat × Nat × Nat × Nat × Nat) => True) (fun (u9 : Nat × Nat × Nat × Nat × Nat × Nat) t9 => bW D (va_A [(h, .inr (1, [.null, .null, .null, .null, .null, .null, .int 0, .int 0, .int 0, .int 0, .int 0, .int 0, .int 0]))] sz) [(h, .inr (1, [.ref u9.1, .ref u9.2.1, .ref u9.2.2.1, .ref u9.2.2.2.1, .ref u9.2.2.2.2.1, .ref u9.2.2.2.2.2, .int 0, .int 0, .int 0, .int 0, .int 0, .int 0, .int 0])), (u9.1, .inl (dA 1, 32, .inl (fun _ => 0))), (u9.2.1, .inl (dA 1, 32, .inl (fun _ => 0))), (u9.2.2.1, .inl (dA 1, 32, .inl (fun _ => 0))), (u9.2.2.2.1, .inl (dA 1, 32, .inl (fun _ => 0))), (u9.2.2.2.2.1, .inl (dA 2, 32, .inr (.inl (fun _ => 0)))), (u9.2.2.2.2.2, .inl (dA 2, 32, .inr (.inl (fun _ => 0))))] t9) (va_A [(h, .inr (1, [.null, .null, .null, .null, .null, .null, .int 0, .int 0, .int 0, .int 0, .int 0, .int 0, .int 0]))] sz)) 6 192 (va_A [(h, .inr (1, [.null, .null, .null, .null, .null, .null, .int 0, .int 0, .int 0, .int 0, .int 0, .int 0, .int 0]))] sz) := by
  refine mkC (Qc := fun A => va_Qv (fun (_ : Nat × Nat × Nat × Nat × Nat × Nat) => True) (fun (u9 : Nat × Nat × Nat × Nat × Nat × Nat) t9 => bW D A [(h, .inr (1, [.ref u9.1, .ref u9.2.1, .ref u9.2.2.1, .ref u9.2.2.2.1, .ref u9.2.2.2.2.1, .ref u9.2.2.2.2.2, .int 0, .int 0, .int 0, .int 0, .int 0, .int 0, .int 0])), (u9.1, .inl (dA 1, 32, .inl (fun _ => 0))), (u9.2.1, .inl (dA 1, 32, .inl (fun _ => 0))), (u9.2.2.1, .inl (dA 1, 32, .inl (fun _ => 0))), (u9.2.2.2.1, .inl (dA 1, 32, .inl (fun _ => 0))), (u9.2.2.2.2.1, .inl (dA 2, 32, .inr (.inl (fun _ => 0)))), (u9.2.2.2.2.2, .inl (dA 2, 32, .inr (.inl (fun _ => 0))))] t9) A) (by decide) (Nat.le_of_ble_eq_true rfl) ?_
  intro A p e s m below meth c ls hsz hB
  obtain ⟨hx, hb, hr, hml, hown, hin, hlk, hE, hK, hP, hD, hS, hA, hN, hl⟩ := hB
  have hown : s.vm.findClass "SeriesVault$Journal" = some m.cls := hown
  have hin : meth.name = "<init>" := hin
  have hl : lv_has ls 1 [(0, .ref h)] := hl
  obtain ⟨H, hH⟩ : ∃ z, z = s.heap := ⟨_, rfl⟩
  have hP : va_P D vwCl [(h, .inr (1, [.null, .null, .null, .null, .null, .null, .int 0, .int 0, .int 0, .int 0, .int 0, .int 0, .int 0]))] H := by rw [hH]; exact hP
  have hS : va_S A s.heap H [] := by rw [hH]; exact hS
  rw [← hH]
  refine lv_aload_n hx hb d_J_init_0 rfl (lv_at hl 0 rfl) ?_
  refine oI hx hb hown hE w189 w182 w183 (hl.1.trans hml.symm) d_J_init_1 (Nat.le_of_ble_eq_true rfl) (Nat.le_of_ble_eq_true rfl) ?_
  refine lv_aload_n hx hb d_J_init_4 rfl (lv_at hl 0 rfl) ?_
  refine lv_bipush (v := 32) hx hb d_J_init_5 (by decide) ?_
  refine nwA (atype := .int) (ty := .int) (n := 32) (N' := 32) (a0 := (32, .inl (fun _ => 0))) hx hb hE rfl w184 hK hP hD hS hA 1 rfl (fun _ => rfl) (by decide) (by decide) (Nat.le_of_ble_eq_true rfl) (Nat.le_of_ble_eq_true rfl) (Nat.le_of_ble_eq_true rfl) d_J_init_7 (fun q1 H hP hD hS => ?_)
  have hP : va_P D vwCl [(h, .inr (1, [.null, .null, .null, .null, .null, .null, .int 0, .int 0, .int 0, .int 0, .int 0, .int 0, .int 0])), (q1, .inl (dA 1, 32, .inl (fun _ => 0)))] H := hP
  have hD : va_D A [(h, .inr (1, [.null, .null, .null, .null, .null, .null, .int 0, .int 0, .int 0, .int 0, .int 0, .int 0, .int 0])), (q1, .inl (dA 1, 32, .inl (fun _ => 0)))] := hD
  refine pF hx hb hown hE hK hP hD hS 0 rfl rfl layJ tyJ tokJ nmJ 0 (by decide) w190 rfl rfl rfl (Nat.le_of_ble_eq_true rfl) d_J_init_9 (fun H locs hP hD hS => ?_)
  have hP : va_P D vwCl [(h, .inr (1, [.ref q1, .null, .null, .null, .null, .null, .int 0, .int 0, .int 0, .int 0, .int 0, .int 0, .int 0])), (q1, .inl (dA 1, 32, .inl (fun _ => 0)))] H := hP
  have hD : va_D A [(h, .inr (1, [.ref q1, .null, .null, .null, .null, .null, .int 0, .int 0, .int 0, .int 0, .int 0, .int 0, .int 0])), (q1, .inl (dA 1, 32, .inl (fun _ => 0)))] := hD
  refine lv_aload_n hx hb d_J_init_12 rfl (lv_at hl 0 rfl) ?_
  refine lv_bipush (v := 32) hx hb d_J_init_13 (by decide) ?_
  refine nwA (atype := .int) (ty := .int) (n := 32) (N' := 32) (a0 := (32, .inl (fun _ => 0))) hx hb hE rfl w184 hK hP hD hS hA 1 rfl (fun _ => rfl) (by decide) (by decide) (Nat.le_of_ble_eq_true rfl) (Nat.le_of_ble_eq_true rfl) (Nat.le_of_ble_eq_true rfl) d_J_init_15 (fun q2 H hP hD hS => ?_)
  have hP : va_P D vwCl [(h, .inr (1, [.ref q1, .null, .null, .null, .null, .null, .int 0, .int 0, .int 0, .int 0, .int 0, .int 0, .int 0])), (q1, .inl (dA 1, 32, .inl (fun _ => 0))), (q2, .inl (dA 1, 32, .inl (fun _ => 0)))] H := hP
  have hD : va_D A [(h, .inr (1, [.ref q1, .null, .null, .null, .null, .null, .int 0, .int 0, .int 0, .int 0, .int 0, .int 0, .int 0])), (q1, .inl (dA 1, 32, .inl (fun _ => 0))), (q2, .inl (dA 1, 32, .inl (fun _ => 0)))] := hD
  refine pF hx hb hown hE hK hP hD hS 0 rfl rfl layJ tyJ tokJ nmJ 1 (by decide) w191 rfl rfl rfl (Nat.le_of_ble_eq_true rfl) d_J_init_17 (fun H locs hP hD hS => ?_)
  have hP : va_P D vwCl [(h, .inr (1, [.ref q1, .ref q2, .null, .null, .null, .null, .int 0, .int 0, .int 0, .int 0, .int 0, .int 0, .int 0])), (q1, .inl (dA 1, 32, .inl (fun _ => 0))), (q2, .inl (dA 1, 32, .inl (fun _ => 0)))] H := hP
  have hD : va_D A [(h, .inr (1, [.ref q1, .ref q2, .null, .null, .null, .null, .int 0, .int 0, .int 0, .int 0, .int 0, .int 0, .int 0])), (q1, .inl (dA 1, 32, .inl (fun _ => 0))), (q2, .inl (dA 1, 32, .inl (fun _ => 0)))] := hD
  refine lv_aload_n hx hb d_J_init_20 rfl (lv_at hl 0 rfl) ?_
  refine lv_bipush (v := 32) hx hb d_J_init_21 (by decide) ?_
  refine nwA (atype := .int) (ty := .int) (n := 32) (N' := 32) (a0 := (32, .inl (fun _ => 0))) hx hb hE rfl w184 hK hP hD hS hA 1 rfl (fun _ => rfl) (by decide) (by decide) (Nat.le_of_ble_eq_true rfl) (Nat.le_of_ble_eq_true rfl) (Nat.le_of_ble_eq_true rfl) d_J_init_23 (fun q3 H hP hD hS => ?_)
  have hP : va_P D vwCl [(h, .inr (1, [.ref q1, .ref q2, .null, .null, .null, .null, .int 0, .int 0, .int 0, .int 0, .int 0, .int 0, .int 0])), (q1, .inl (dA 1, 32, .inl (fun _ => 0))), (q2, .inl (dA 1, 32, .inl (fun _ => 0))), (q3, .inl (dA 1, 32, .inl (fun _ => 0)))] H := hP
  have hD : va_D A [(h, .inr (1, [.ref q1, .ref q2, .null, .null, .null, .null, .int 0, .int 0, .int 0, .int 0, .int 0, .int 0, .int 0])), (q1, .inl (dA 1, 32, .inl (fun _ => 0))), (q2, .inl (dA 1, 32, .inl (fun _ => 0))), (q3, .inl (dA 1, 32, .inl (fun _ => 0)))] := hD
  refine pF hx hb hown hE hK hP hD hS 0 rfl rfl layJ tyJ tokJ nmJ 2 (by decide) w192 rfl rfl rfl (Nat.le_of_ble_eq_true rfl) d_J_init_25 (fun H locs hP hD hS => ?_)
  have hP : va_P D vwCl [(h, .inr (1, [.ref q1, .ref q2, .ref q3, .null, .null, .null, .int 0, .int 0, .int 0, .int 0, .int 0, .int 0, .int 0])), (q1, .inl (dA 1, 32, .inl (fun _ => 0))), (q2, .inl (dA 1, 32, .inl (fun _ => 0))), (q3, .inl (dA 1, 32, .inl (fun _ => 0)))] H := hP
  have hD : va_D A [(h, .inr (1, [.ref q1, .ref q2, .ref q3, .null, .null, .null, .int 0, .int 0, .int 0, .int 0, .int 0, .int 0, .int 0])), (q1, .inl (dA 1, 32, .inl (fun _ => 0))), (q2, .inl (dA 1, 32, .inl (fun _ => 0))), (q3, .inl (dA 1, 32, .inl (fun _ => 0)))] := hD
  refine lv_aload_n hx hb d_J_init_28 rfl (lv_at hl 0 rfl) ?_
  refine lv_bipush (v := 32) hx hb d_J_init_29 (by decide) ?_
  refine nwA (atype := .int) (ty := .int) (n := 32) (N' := 32) (a0 := (32, .inl (fun _ => 0))) hx hb hE rfl w184 hK hP hD hS hA 1 rfl (fun _ => rfl) (by decide) (by decide) (Nat.le_of_ble_eq_true rfl) (Nat.le_of_ble_eq_true rfl) (Nat.le_of_ble_eq_true rfl) d_J_init_31 (fun q4 H hP hD hS => ?_)
  have hP : va_P D vwCl [(h, .inr (1, [.ref q1, .ref q2, .ref q3, .null, .null, .null, .int 0, .int 0, .int 0, .int 0, .int 0, .int 0, .int 0])), (q1, .inl (dA 1, 32, .inl (fun _ => 0))), (q2, .inl (dA 1, 32, .inl (fun _ => 0))), (q3, .inl (dA 1, 32, .inl (fun _ => 0))), (q4, .inl (dA 1, 32, .inl (fun _ => 0)))] H := hP
  have hD : va_D A [(h, .inr (1, [.ref q1, .ref q2, .ref q3, .null, .null, .null, .int 0, .int 0, .int 0, .int 0, .int 0, .int 0, .int 0])), (q1, .inl (dA 1, 32, .inl (fun _ => 0))), (q2, .inl (dA 1, 32, .inl (fun _ => 0))), (q3, .inl (dA 1, 32, .inl (fun _ => 0))), (q4, .inl (dA 1, 32, .inl (fun _ => 0)))] := hD
  refine pF hx hb hown hE hK hP hD hS 0 rfl rfl layJ tyJ tokJ nmJ 3 (by decide) w193 rfl rfl rfl (Nat.le_of_ble_eq_true rfl) d_J_init_33 (fun H locs hP hD hS => ?_)
  have hP : va_P D vwCl [(h, .inr (1, [.ref q1, .ref q2, .ref q3, .ref q4, .null, .null, .int 0, .int 0, .int 0, .int 0, .int 0, .int 0, .int 0])), (q1, .inl (dA 1, 32, .inl (fun _ => 0))), (q2, .inl (dA 1, 32, .inl (fun _ => 0))), (q3, .inl (dA 1, 32, .inl (fun _ => 0))), (q4, .inl (dA 1, 32, .inl (fun _ => 0)))] H := hP
  have hD : va_D A [(h, .inr (1, [.ref q1, .ref q2, .ref q3, .ref q4, .null, .null, .int 0, .int 0, .int 0, .int 0, .int 0, .int 0, .int 0])), (q1, .inl (dA 1, 32, .inl (fun _ => 0))), (q2, .inl (dA 1, 32, .inl (fun _ => 0))), (q3, .inl (dA 1, 32, .inl (fun _ => 0))), (q4, .inl (dA 1, 32, .inl (fun _ => 0)))] := hD
  refine lv_aload_n hx hb d_J_init_36 rfl (lv_at hl 0 rfl) ?_
  refine lv_bipush (v := 32) hx hb d_J_init_37 (by decide) ?_
  refine nwA (atype := .long) (ty := .long) (n := 32) (N' := 32) (a0 := (32, .inr (.inl (fun _ => 0)))) hx hb hE rfl w186 hK hP hD hS hA 2 rfl (fun _ => rfl) (by decide) (by decide) (Nat.le_of_ble_eq_true rfl) (Nat.le_of_ble_eq_true rfl) (Nat.le_of_ble_eq_true rfl) d_J_init_39 (fun q5 H hP hD hS => ?_)
  have hP : va_P D vwCl [(h, .inr (1, [.ref q1, .ref q2, .ref q3, .ref q4, .null, .null, .int 0, .int 0, .int 0, .int 0, .int 0, .int 0, .int 0])), (q1, .inl (dA 1, 32, .inl (fun _ => 0))), (q2, .inl (dA 1, 32, .inl (fun _ => 0))), (q3, .inl (dA 1, 32, .inl (fun _ => 0))), (q4, .inl (dA 1, 32, .inl (fun _ => 0))), (q5, .inl (dA 2, 32, .inr (.inl (fun _ => 0))))] H := hP
  have hD : va_D A [(h, .inr (1, [.ref q1, .ref q2, .ref q3, .ref q4, .null, .null, .int 0, .int 0, .int 0, .int 0, .int 0, .int 0, .int 0])), (q1, .inl (dA 1, 32, .inl (fun _ => 0))), (q2, .inl (dA 1, 32, .inl (fun _ => 0))), (q3, .inl (dA 1, 32, .inl (fun _ => 0))), (q4, .inl (dA 1, 32, .inl (fun _ => 0))), (q5, .inl (dA 2, 32, .inr (.inl (fun _ => 0))))] := hD
  refine pF hx hb hown hE hK hP hD hS 0 rfl rfl layJ tyJ tokJ nmJ 4 (by decide) w194 rfl rfl rfl (Nat.le_of_ble_eq_true rfl) d_J_init_41 (fun H locs hP hD hS => ?_)
  have hP : va_P D vwCl [(h, .inr (1, [.ref q1, .ref q2, .ref q3, .ref q4, .ref q5, .null, .int 0, .int 0, .int 0, .int 0, .int 0, .int 0, .int 0])), (q1, .inl (dA 1, 32, .inl (fun _ => 0))), (q2, .inl (dA 1, 32, .inl (fun _ => 0))), (q3, .inl (dA 1, 32, .inl (fun _ => 0))), (q4, .inl (dA 1, 32, .inl (fun _ => 0))), (q5, .inl (dA 2, 32, .inr (.inl (fun _ => 0))))] H := hP
  have hD : va_D A [(h, .inr (1, [.ref q1, .ref q2, .ref q3, .ref q4, .ref q5, .null, .int 0, .int 0, .int 0, .int 0, .int 0, .int 0, .int 0])), (q1, .inl (dA 1, 32, .inl (fun _ => 0))), (q2, .inl (dA 1, 32, .inl (fun _ => 0))), (q3, .inl (dA 1, 32, .inl (fun _ => 0))), (q4, .inl (dA 1, 32, .inl (fun _ => 0))), (q5, .inl (dA 2, 32, .inr (.inl (fun _ => 0))))] := hD
  refine lv_aload_n hx hb d_J_init_44 rfl (lv_at hl 0 rfl) ?_
  refine lv_bipush (v := 32) hx hb d_J_init_45 (by decide) ?_
  refine nwA (atype := .long) (ty := .long) (n := 32) (N' := 32) (a0 := (32, .inr (.inl (fun _ => 0)))) hx hb hE rfl w186 hK hP hD hS hA 2 rfl (fun _ => rfl) (by decide) (by decide) (Nat.le_of_ble_eq_true rfl) (Nat.le_of_ble_eq_true rfl) (Nat.le_of_ble_eq_true rfl) d_J_init_47 (fun q6 H hP hD hS => ?_)
  have hP : va_P D vwCl [(h, .inr (1, [.ref q1, .ref q2, .ref q3, .ref q4, .ref q5, .null, .int 0, .int 0, .int 0, .int 0, .int 0, .int 0, .int 0])), (q1, .inl (dA 1, 32, .inl (fun _ => 0))), (q2, .inl (dA 1, 32, .inl (fun _ => 0))), (q3, .inl (dA 1, 32, .inl (fun _ => 0))), (q4, .inl (dA 1, 32, .inl (fun _ => 0))), (q5, .inl (dA 2, 32, .inr (.inl (fun _ => 0)))), (q6, .inl (dA 2, 32, .inr (.inl (fun _ => 0))))] H := hP
  have hD : va_D A [(h, .inr (1, [.ref q1, .ref q2, .ref q3, .ref q4, .ref q5, .null, .int 0, .int 0, .int 0, .int 0, .int 0, .int 0, .int 0])), (q1, .inl (dA 1, 32, .inl (fun _ => 0))), (q2, .inl (dA 1, 32, .inl (fun _ => 0))), (q3, .inl (dA 1, 32, .inl (fun _ => 0))), (q4, .inl (dA 1, 32, .inl (fun _ => 0))), (q5, .inl (dA 2, 32, .inr (.inl (fun _ => 0)))), (q6, .inl (dA 2, 32, .inr (.inl (fun _ => 0))))] := hD
  refine pF hx hb hown hE hK hP hD hS 0 rfl rfl layJ tyJ tokJ nmJ 5 (by decide) w195 rfl rfl rfl (Nat.le_of_ble_eq_true rfl) d_J_init_49 (fun H locs hP hD hS => ?_)
  have hP : va_P D vwCl [(h, .inr (1, [.ref q1, .ref q2, .ref q3, .ref q4, .ref q5, .ref q6, .int 0, .int 0, .int 0, .int 0, .int 0, .int 0, .int 0])), (q1, .inl (dA 1, 32, .inl (fun _ => 0))), (q2, .inl (dA 1, 32, .inl (fun _ => 0))), (q3, .inl (dA 1, 32, .inl (fun _ => 0))), (q4, .inl (dA 1, 32, .inl (fun _ => 0))), (q5, .inl (dA 2, 32, .inr (.inl (fun _ => 0)))), (q6, .inl (dA 2, 32, .inr (.inl (fun _ => 0))))] H := hP
  have hD : va_D A [(h, .inr (1, [.ref q1, .ref q2, .ref q3, .ref q4, .ref q5, .ref q6, .int 0, .int 0, .int 0, .int 0, .int 0, .int 0, .int 0])), (q1, .inl (dA 1, 32, .inl (fun _ => 0))), (q2, .inl (dA 1, 32, .inl (fun _ => 0))), (q3, .inl (dA 1, 32, .inl (fun _ => 0))), (q4, .inl (dA 1, 32, .inl (fun _ => 0))), (q5, .inl (dA 2, 32, .inr (.inl (fun _ => 0)))), (q6, .inl (dA 2, 32, .inr (.inl (fun _ => 0))))] := hD
  exact rtV hx hb hr hlk hP hD hS (q1, q2, q3, q4, q5, q6) trivial [0, 1, 2, 3, 4, 5, 6] rfl rfl (by decide) (Nat.le_of_ble_eq_true rfl) (Nat.le_of_ble_eq_true rfl) d_J_init_52
theorem d_H_init_0 : decode prog_9_method_1_code 0 = .ok (.aload_n 0, 1) := by decide +kernel
theorem d_H_init_1 : decode prog_9_method_1_code 1 = .ok (.invokespecial 3, 3) := by decide +kernel
theorem d_H_init_4 : decode prog_9_method_1_code 4 = .ok (.aload_n 0, 1) := by decide +kernel
theorem d_H_init_5 : decode prog_9_method_1_code 5 = .ok (.bipush 32, 2) := by decide +kernel
theorem d_H_init_7 : decode prog_9_method_1_code 7 = .ok (.anewarray 9, 3) := by decide +kernel
theorem d_H_init_10 : decode prog_9_method_1_code 10 = .ok (.putfield 11, 3) := by decide +kernel
theorem d_H_init_13 : decode prog_9_method_1_code 13 = .ok (.aload_n 0, 1) := by decide +kernel
theorem d_H_init_14 : decode prog_9_method_1_code 14 = .ok (.bipush 64, 2) := by decide +kernel
theorem d_H_init_16 : decode prog_9_method_1_code 16 = .ok (.newarray .int, 2) := by decide +kernel
theorem d_H_init_18 : decode prog_9_method_1_code 18 = .ok (.putfield 17, 3) := by decide +kernel
theorem d_H_init_21 : decode prog_9_method_1_code 21 = .ok (.aload_n 0, 1) := by decide +kernel
theorem d_H_init_22 : decode prog_9_method_1_code 22 = .ok (.bipush 64, 2) := by decide +kernel
theorem d_H_init_24 : decode prog_9_method_1_code 24 = .ok (.newarray .long, 2) := by decide +kernel
theorem d_H_init_26 : decode prog_9_method_1_code 26 = .ok (.putfield 21, 3) := by decide +kernel
theorem d_H_init_29 : decode prog_9_method_1_code 29 = .ok (.aload_n 0, 1) := by decide +kernel
theorem d_H_init_30 : decode prog_9_method_1_code 30 = .ok (.bipush 64, 2) := by decide +kernel
theorem d_H_init_32 : decode prog_9_method_1_code 32 = .ok (.newarray .long, 2) := by decide +kernel
theorem d_H_init_34 : decode prog_9_method_1_code 34 = .ok (.putfield 25, 3) := by decide +kernel
theorem d_H_init_37 : decode prog_9_method_1_code 37 = .ok (.aload_n 0, 1) := by decide +kernel
theorem d_H_init_38 : decode prog_9_method_1_code 38 = .ok (.bipush 64, 2) := by decide +kernel
theorem d_H_init_40 : decode prog_9_method_1_code 40 = .ok (.newarray .int, 2) := by decide +kernel
theorem d_H_init_42 : decode prog_9_method_1_code 42 = .ok (.putfield 28, 3) := by decide +kernel
theorem d_H_init_45 : decode prog_9_method_1_code 45 = .ok (.aload_n 0, 1) := by decide +kernel
theorem d_H_init_46 : decode prog_9_method_1_code 46 = .ok (.sipush 256, 3) := by decide +kernel
theorem d_H_init_49 : decode prog_9_method_1_code 49 = .ok (.newarray .long, 2) := by decide +kernel
theorem d_H_init_51 : decode prog_9_method_1_code 51 = .ok (.putfield 31, 3) := by decide +kernel
theorem d_H_init_54 : decode prog_9_method_1_code 54 = .ok (.return_, 1) := by decide +kernel
theorem w196 : Cond.methodLink "SeriesVault$Shelf" 3 ⟨"java/lang/Object", "<init>", "()V"⟩ ∈ aW := aw_of (tb_1 (List.mem_of_getElem? (i := 137) rfl)) rfl
theorem w197 : Cond.classLink "SeriesVault$Shelf" 9 "SeriesVault$Parcel" ∈ aW := aw_of (tb_1 (List.mem_of_getElem? (i := 138) rfl)) rfl
theorem w198 : Cond.arrayOver (FieldType.object "SeriesVault$Parcel") ∈ aW := aw_of (tb_1 (List.mem_of_getElem? (i := 139) rfl)) rfl
theorem w199 : Cond.fieldLink "SeriesVault$Shelf" 11 "SeriesVault$Shelf" "parcels" "[LSeriesVault$Parcel;" ∈ aW := aw_of (tb_1 (List.mem_of_getElem? (i := 140) rfl)) rfl
theorem w200 : Cond.fieldLink "SeriesVault$Shelf" 17 "SeriesVault$Shelf" "scarOwners" "[I" ∈ aW := aw_of (tb_1 (List.mem_of_getElem? (i := 146) rfl)) rfl
theorem w201 : Cond.fieldLink "SeriesVault$Shelf" 21 "SeriesVault$Shelf" "scarFroms" "[J" ∈ aW := aw_of (tb_1 (List.mem_of_getElem? (i := 147) rfl)) rfl
theorem w202 : Cond.fieldLink "SeriesVault$Shelf" 25 "SeriesVault$Shelf" "scarTos" "[J" ∈ aW := aw_of (tb_1 (List.mem_of_getElem? (i := 148) rfl)) rfl
theorem w203 : Cond.fieldLink "SeriesVault$Shelf" 28 "SeriesVault$Shelf" "scarPoints" "[I" ∈ aW := aw_of (tb_1 (List.mem_of_getElem? (i := 149) rfl)) rfl
theorem w204 : Cond.fieldLink "SeriesVault$Shelf" 31 "SeriesVault$Shelf" "lasts" "[J" ∈ aW := aw_of (tb_1 (List.mem_of_getElem? (i := 157) rfl)) rfl
set_option maxHeartbeats 4000000 in
set_option maxRecDepth 100000 in
theorem c_H_init (l : Launch) (D : va_G) (dA : Nat → ClassId) (sz : Nat) (h : Nat) : Met l ⟨"SeriesVault$Shelf", "<init>", "()V"⟩ [Cond.code ⟨"SeriesVault$Shelf", "<init>", "()V"⟩ prog_9_method_1_code 1 none] { frames := 1, cells := 6, slots := 544, locals := 12 } (pC D dA [.ref h] [(h, .inr (3, [.null, .int 0, .null, .null, .null, .null, .int 0, .long 0, .int 0, .null, .int 0]))] sz) (va_Qv (fun (_ : Nat × Nat × Nat × Nat × Nat × Nat) => True) (fun (u9 : Nat × Nat × Nat × Nat × Nat × Nat) t9 => bW D (va_A [(h, .inr (3, [.null, .int 0, .null, .null, .null, .null, .int 0, .long 0, .int 0, .null, .int 0]))] sz) [(h, .inr (3, [.ref u9.1, .int 0, .ref u9.2.1, .ref u9.2.2.1, .ref u9.2.2.2.1, .ref u9.2.2.2.2.1, .int 0, .long 0, .int 0, .ref u9.2.2.2.2.2, .int 0])), (u9.1, .inl (dA 4, 32, .inr (.inr (.inr (.inr (fun _ => none)))))), (u9.2.1, .inl (dA 1, 64, .inl (fun _ => 0))), (u9.2.2.1, .inl (dA 2, 64, .inr (.inl (fun _ => 0)))), (u9.2.2.2.1, .inl (dA 2, 64, .inr (.inl (fun _ => 0)))), (u9.2.2.2.2.1, .inl (dA 1, 64, .inl (fun _ => 0))), (u9.2.2.2.2.2, .inl (dA 2, 256, .inr (.inl (fun _ => 0))))] t9) (va_A [(h, .inr (3, [.null, .int 0, .null, .null, .null, .null, .int 0, .long 0, .int 0, .null, .int 0]))] sz)) 6 544 (va_A [(h, .inr (3, [.null, .int 0, .null, .null, .null, .null, .int 0, .long 0, .int 0, .null, .int 0]))] sz) := by
  refine mkC (Qc := fun A => va_Qv (fun (_ : Nat × Nat × Nat × Nat × Nat × Nat) => True) (fun (u9 : Nat × Nat × Nat × Nat × Nat × Nat) t9 => bW D A [(h, .inr (3, [.ref u9.1, .int 0, .ref u9.2.1, .ref u9.2.2.1, .ref u9.2.2.2.1, .ref u9.2.2.2.2.1, .int 0, .long 0, .int 0, .ref u9.2.2.2.2.2, .int 0])), (u9.1, .inl (dA 4, 32, .inr (.inr (.inr (.inr (fun _ => none)))))), (u9.2.1, .inl (dA 1, 64, .inl (fun _ => 0))), (u9.2.2.1, .inl (dA 2, 64, .inr (.inl (fun _ => 0)))), (u9.2.2.2.1, .inl (dA 2, 64, .inr (.inl (fun _ => 0)))), (u9.2.2.2.2.1, .inl (dA 1, 64, .inl (fun _ => 0))), (u9.2.2.2.2.2, .inl (dA 2, 256, .inr (.inl (fun _ => 0))))] t9) A) (by decide) (Nat.le_of_ble_eq_true rfl) ?_
  intro A p e s m below meth c ls hsz hB
  obtain ⟨hx, hb, hr, hml, hown, hin, hlk, hE, hK, hP, hD, hS, hA, hN, hl⟩ := hB
  have hown : s.vm.findClass "SeriesVault$Shelf" = some m.cls := hown
  have hin : meth.name = "<init>" := hin
  have hl : lv_has ls 1 [(0, .ref h)] := hl
  obtain ⟨H, hH⟩ : ∃ z, z = s.heap := ⟨_, rfl⟩
  have hP : va_P D vwCl [(h, .inr (3, [.null, .int 0, .null, .null, .null, .null, .int 0, .long 0, .int 0, .null, .int 0]))] H := by rw [hH]; exact hP
  have hS : va_S A s.heap H [] := by rw [hH]; exact hS
  rw [← hH]
  refine lv_aload_n hx hb d_H_init_0 rfl (lv_at hl 0 rfl) ?_
  refine oI hx hb hown hE w196 w182 w183 (hl.1.trans hml.symm) d_H_init_1 (Nat.le_of_ble_eq_true rfl) (Nat.le_of_ble_eq_true rfl) ?_
  refine lv_aload_n hx hb d_H_init_4 rfl (lv_at hl 0 rfl) ?_
  refine lv_bipush (v := 32) hx hb d_H_init_5 (by decide) ?_
  refine nwQ hx hb hown hE w197 w198 hK hP hD hS hA 4 rfl (n := 32) (N' := 32) (by decide) (by decide) (Nat.le_of_ble_eq_true rfl) (Nat.le_of_ble_eq_true rfl) (Nat.le_of_ble_eq_true rfl) d_H_init_7 (fun q1 H hP hD hS => ?_)
  have hP : va_P D vwCl [(h, .inr (3, [.null, .int 0, .null, .null, .null, .null, .int 0, .long 0, .int 0, .null, .int 0])), (q1, .inl (dA 4, 32, .inr (.inr (.inr (.inr (fun _ => none))))))] H := hP
  have hD : va_D A [(h, .inr (3, [.null, .int 0, .null, .null, .null, .null, .int 0, .long 0, .int 0, .null, .int 0])), (q1, .inl (dA 4, 32, .inr (.inr (.inr (.inr (fun _ => none))))))] := hD
  refine pFF hx hb hown hE hK hP hD hS 0 rfl rfl layH tyH tokH nmH 0 (by decide) w199 rfl hin rfl rfl rfl (Nat.le_of_ble_eq_true rfl) d_H_init_10 (fun H locs hP hD hS => ?_)
  have hP : va_P D vwCl [(h, .inr (3, [.ref q1, .int 0, .null, .null, .null, .null, .int 0, .long 0, .int 0, .null, .int 0])), (q1, .inl (dA 4, 32, .inr (.inr (.inr (.inr (fun _ => none))))))] H := hP
  have hD : va_D A [(h, .inr (3, [.ref q1, .int 0, .null, .null, .null, .null, .int 0, .long 0, .int 0, .null, .int 0])), (q1, .inl (dA 4, 32, .inr (.inr (.inr (.inr (fun _ => none))))))] := hD
  refine lv_aload_n hx hb d_H_init_13 rfl (lv_at hl 0 rfl) ?_
  refine lv_bipush (v := 64) hx hb d_H_init_14 (by decide) ?_
  refine nwA (atype := .int) (ty := .int) (n := 64) (N' := 64) (a0 := (64, .inl (fun _ => 0))) hx hb hE rfl w184 hK hP hD hS hA 1 rfl (fun _ => rfl) (by decide) (by decide) (Nat.le_of_ble_eq_true rfl) (Nat.le_of_ble_eq_true rfl) (Nat.le_of_ble_eq_true rfl) d_H_init_16 (fun q2 H hP hD hS => ?_)
  have hP : va_P D vwCl [(h, .inr (3, [.ref q1, .int 0, .null, .null, .null, .null, .int 0, .long 0, .int 0, .null, .int 0])), (q1, .inl (dA 4, 32, .inr (.inr (.inr (.inr (fun _ => none)))))), (q2, .inl (dA 1, 64, .inl (fun _ => 0)))] H := hP
  have hD : va_D A [(h, .inr (3, [.ref q1, .int 0, .null, .null, .null, .null, .int 0, .long 0, .int 0, .null, .int 0])), (q1, .inl (dA 4, 32, .inr (.inr (.inr (.inr (fun _ => none)))))), (q2, .inl (dA 1, 64, .inl (fun _ => 0)))] := hD
  refine pFF hx hb hown hE hK hP hD hS 0 rfl rfl layH tyH tokH nmH 2 (by decide) w200 rfl hin rfl rfl rfl (Nat.le_of_ble_eq_true rfl) d_H_init_18 (fun H locs hP hD hS => ?_)
  have hP : va_P D vwCl [(h, .inr (3, [.ref q1, .int 0, .ref q2, .null, .null, .null, .int 0, .long 0, .int 0, .null, .int 0])), (q1, .inl (dA 4, 32, .inr (.inr (.inr (.inr (fun _ => none)))))), (q2, .inl (dA 1, 64, .inl (fun _ => 0)))] H := hP
  have hD : va_D A [(h, .inr (3, [.ref q1, .int 0, .ref q2, .null, .null, .null, .int 0, .long 0, .int 0, .null, .int 0])), (q1, .inl (dA 4, 32, .inr (.inr (.inr (.inr (fun _ => none)))))), (q2, .inl (dA 1, 64, .inl (fun _ => 0)))] := hD
  refine lv_aload_n hx hb d_H_init_21 rfl (lv_at hl 0 rfl) ?_
  refine lv_bipush (v := 64) hx hb d_H_init_22 (by decide) ?_
  refine nwA (atype := .long) (ty := .long) (n := 64) (N' := 64) (a0 := (64, .inr (.inl (fun _ => 0)))) hx hb hE rfl w186 hK hP hD hS hA 2 rfl (fun _ => rfl) (by decide) (by decide) (Nat.le_of_ble_eq_true rfl) (Nat.le_of_ble_eq_true rfl) (Nat.le_of_ble_eq_true rfl) d_H_init_24 (fun q3 H hP hD hS => ?_)
  have hP : va_P D vwCl [(h, .inr (3, [.ref q1, .int 0, .ref q2, .null, .null, .null, .int 0, .long 0, .int 0, .null, .int 0])), (q1, .inl (dA 4, 32, .inr (.inr (.inr (.inr (fun _ => none)))))), (q2, .inl (dA 1, 64, .inl (fun _ => 0))), (q3, .inl (dA 2, 64, .inr (.inl (fun _ => 0))))] H := hP
  have hD : va_D A [(h, .inr (3, [.ref q1, .int 0, .ref q2, .null, .null, .null, .int 0, .long 0, .int 0, .null, .int 0])), (q1, .inl (dA 4, 32, .inr (.inr (.inr (.inr (fun _ => none)))))), (q2, .inl (dA 1, 64, .inl (fun _ => 0))), (q3, .inl (dA 2, 64, .inr (.inl (fun _ => 0))))] := hD
  refine pFF hx hb hown hE hK hP hD hS 0 rfl rfl layH tyH tokH nmH 3 (by decide) w201 rfl hin rfl rfl rfl (Nat.le_of_ble_eq_true rfl) d_H_init_26 (fun H locs hP hD hS => ?_)
  have hP : va_P D vwCl [(h, .inr (3, [.ref q1, .int 0, .ref q2, .ref q3, .null, .null, .int 0, .long 0, .int 0, .null, .int 0])), (q1, .inl (dA 4, 32, .inr (.inr (.inr (.inr (fun _ => none)))))), (q2, .inl (dA 1, 64, .inl (fun _ => 0))), (q3, .inl (dA 2, 64, .inr (.inl (fun _ => 0))))] H := hP
  have hD : va_D A [(h, .inr (3, [.ref q1, .int 0, .ref q2, .ref q3, .null, .null, .int 0, .long 0, .int 0, .null, .int 0])), (q1, .inl (dA 4, 32, .inr (.inr (.inr (.inr (fun _ => none)))))), (q2, .inl (dA 1, 64, .inl (fun _ => 0))), (q3, .inl (dA 2, 64, .inr (.inl (fun _ => 0))))] := hD
  refine lv_aload_n hx hb d_H_init_29 rfl (lv_at hl 0 rfl) ?_
  refine lv_bipush (v := 64) hx hb d_H_init_30 (by decide) ?_
  refine nwA (atype := .long) (ty := .long) (n := 64) (N' := 64) (a0 := (64, .inr (.inl (fun _ => 0)))) hx hb hE rfl w186 hK hP hD hS hA 2 rfl (fun _ => rfl) (by decide) (by decide) (Nat.le_of_ble_eq_true rfl) (Nat.le_of_ble_eq_true rfl) (Nat.le_of_ble_eq_true rfl) d_H_init_32 (fun q4 H hP hD hS => ?_)
  have hP : va_P D vwCl [(h, .inr (3, [.ref q1, .int 0, .ref q2, .ref q3, .null, .null, .int 0, .long 0, .int 0, .null, .int 0])), (q1, .inl (dA 4, 32, .inr (.inr (.inr (.inr (fun _ => none)))))), (q2, .inl (dA 1, 64, .inl (fun _ => 0))), (q3, .inl (dA 2, 64, .inr (.inl (fun _ => 0)))), (q4, .inl (dA 2, 64, .inr (.inl (fun _ => 0))))] H := hP
  have hD : va_D A [(h, .inr (3, [.ref q1, .int 0, .ref q2, .ref q3, .null, .null, .int 0, .long 0, .int 0, .null, .int 0])), (q1, .inl (dA 4, 32, .inr (.inr (.inr (.inr (fun _ => none)))))), (q2, .inl (dA 1, 64, .inl (fun _ => 0))), (q3, .inl (dA 2, 64, .inr (.inl (fun _ => 0)))), (q4, .inl (dA 2, 64, .inr (.inl (fun _ => 0))))] := hD
  refine pFF hx hb hown hE hK hP hD hS 0 rfl rfl layH tyH tokH nmH 4 (by decide) w202 rfl hin rfl rfl rfl (Nat.le_of_ble_eq_true rfl) d_H_init_34 (fun H locs hP hD hS => ?_)
  have hP : va_P D vwCl [(h, .inr (3, [.ref q1, .int 0, .ref q2, .ref q3, .ref q4, .null, .int 0, .long 0, .int 0, .null, .int 0])), (q1, .inl (dA 4, 32, .inr (.inr (.inr (.inr (fun _ => none)))))), (q2, .inl (dA 1, 64, .inl (fun _ => 0))), (q3, .inl (dA 2, 64, .inr (.inl (fun _ => 0)))), (q4, .inl (dA 2, 64, .inr (.inl (fun _ => 0))))] H := hP
  have hD : va_D A [(h, .inr (3, [.ref q1, .int 0, .ref q2, .ref q3, .ref q4, .null, .int 0, .long 0, .int 0, .null, .int 0])), (q1, .inl (dA 4, 32, .inr (.inr (.inr (.inr (fun _ => none)))))), (q2, .inl (dA 1, 64, .inl (fun _ => 0))), (q3, .inl (dA 2, 64, .inr (.inl (fun _ => 0)))), (q4, .inl (dA 2, 64, .inr (.inl (fun _ => 0))))] := hD
  refine lv_aload_n hx hb d_H_init_37 rfl (lv_at hl 0 rfl) ?_
  refine lv_bipush (v := 64) hx hb d_H_init_38 (by decide) ?_
  refine nwA (atype := .int) (ty := .int) (n := 64) (N' := 64) (a0 := (64, .inl (fun _ => 0))) hx hb hE rfl w184 hK hP hD hS hA 1 rfl (fun _ => rfl) (by decide) (by decide) (Nat.le_of_ble_eq_true rfl) (Nat.le_of_ble_eq_true rfl) (Nat.le_of_ble_eq_true rfl) d_H_init_40 (fun q5 H hP hD hS => ?_)
  have hP : va_P D vwCl [(h, .inr (3, [.ref q1, .int 0, .ref q2, .ref q3, .ref q4, .null, .int 0, .long 0, .int 0, .null, .int 0])), (q1, .inl (dA 4, 32, .inr (.inr (.inr (.inr (fun _ => none)))))), (q2, .inl (dA 1, 64, .inl (fun _ => 0))), (q3, .inl (dA 2, 64, .inr (.inl (fun _ => 0)))), (q4, .inl (dA 2, 64, .inr (.inl (fun _ => 0)))), (q5, .inl (dA 1, 64, .inl (fun _ => 0)))] H := hP
  have hD : va_D A [(h, .inr (3, [.ref q1, .int 0, .ref q2, .ref q3, .ref q4, .null, .int 0, .long 0, .int 0, .null, .int 0])), (q1, .inl (dA 4, 32, .inr (.inr (.inr (.inr (fun _ => none)))))), (q2, .inl (dA 1, 64, .inl (fun _ => 0))), (q3, .inl (dA 2, 64, .inr (.inl (fun _ => 0)))), (q4, .inl (dA 2, 64, .inr (.inl (fun _ => 0)))), (q5, .inl (dA 1, 64, .inl (fun _ => 0)))] := hD
  refine pFF hx hb hown hE hK hP hD hS 0 rfl rfl layH tyH tokH nmH 5 (by decide) w203 rfl hin rfl rfl rfl (Nat.le_of_ble_eq_true rfl) d_H_init_42 (fun H locs hP hD hS => ?_)
  have hP : va_P D vwCl [(h, .inr (3, [.ref q1, .int 0, .ref q2, .ref q3, .ref q4, .ref q5, .int 0, .long 0, .int 0, .null, .int 0])), (q1, .inl (dA 4, 32, .inr (.inr (.inr (.inr (fun _ => none)))))), (q2, .inl (dA 1, 64, .inl (fun _ => 0))), (q3, .inl (dA 2, 64, .inr (.inl (fun _ => 0)))), (q4, .inl (dA 2, 64, .inr (.inl (fun _ => 0)))), (q5, .inl (dA 1, 64, .inl (fun _ => 0)))] H := hP
  have hD : va_D A [(h, .inr (3, [.ref q1, .int 0, .ref q2, .ref q3, .ref q4, .ref q5, .int 0, .long 0, .int 0, .null, .int 0])), (q1, .inl (dA 4, 32, .inr (.inr (.inr (.inr (fun _ => none)))))), (q2, .inl (dA 1, 64, .inl (fun _ => 0))), (q3, .inl (dA 2, 64, .inr (.inl (fun _ => 0)))), (q4, .inl (dA 2, 64, .inr (.inl (fun _ => 0)))), (q5, .inl (dA 1, 64, .inl (fun _ => 0)))] := hD
  refine lv_aload_n hx hb d_H_init_45 rfl (lv_at hl 0 rfl) ?_
  refine lv_sipush (v := 256) hx hb d_H_init_46 (by decide) ?_
  refine nwA (atype := .long) (ty := .long) (n := 256) (N' := 256) (a0 := (256, .inr (.inl (fun _ => 0)))) hx hb hE rfl w186 hK hP hD hS hA 2 rfl (fun _ => rfl) (by decide) (by decide) (Nat.le_of_ble_eq_true rfl) (Nat.le_of_ble_eq_true rfl) (Nat.le_of_ble_eq_true rfl) d_H_init_49 (fun q6 H hP hD hS => ?_)
  have hP : va_P D vwCl [(h, .inr (3, [.ref q1, .int 0, .ref q2, .ref q3, .ref q4, .ref q5, .int 0, .long 0, .int 0, .null, .int 0])), (q1, .inl (dA 4, 32, .inr (.inr (.inr (.inr (fun _ => none)))))), (q2, .inl (dA 1, 64, .inl (fun _ => 0))), (q3, .inl (dA 2, 64, .inr (.inl (fun _ => 0)))), (q4, .inl (dA 2, 64, .inr (.inl (fun _ => 0)))), (q5, .inl (dA 1, 64, .inl (fun _ => 0))), (q6, .inl (dA 2, 256, .inr (.inl (fun _ => 0))))] H := hP
  have hD : va_D A [(h, .inr (3, [.ref q1, .int 0, .ref q2, .ref q3, .ref q4, .ref q5, .int 0, .long 0, .int 0, .null, .int 0])), (q1, .inl (dA 4, 32, .inr (.inr (.inr (.inr (fun _ => none)))))), (q2, .inl (dA 1, 64, .inl (fun _ => 0))), (q3, .inl (dA 2, 64, .inr (.inl (fun _ => 0)))), (q4, .inl (dA 2, 64, .inr (.inl (fun _ => 0)))), (q5, .inl (dA 1, 64, .inl (fun _ => 0))), (q6, .inl (dA 2, 256, .inr (.inl (fun _ => 0))))] := hD
  refine pFF hx hb hown hE hK hP hD hS 0 rfl rfl layH tyH tokH nmH 9 (by decide) w204 rfl hin rfl rfl rfl (Nat.le_of_ble_eq_true rfl) d_H_init_51 (fun H locs hP hD hS => ?_)
  have hP : va_P D vwCl [(h, .inr (3, [.ref q1, .int 0, .ref q2, .ref q3, .ref q4, .ref q5, .int 0, .long 0, .int 0, .ref q6, .int 0])), (q1, .inl (dA 4, 32, .inr (.inr (.inr (.inr (fun _ => none)))))), (q2, .inl (dA 1, 64, .inl (fun _ => 0))), (q3, .inl (dA 2, 64, .inr (.inl (fun _ => 0)))), (q4, .inl (dA 2, 64, .inr (.inl (fun _ => 0)))), (q5, .inl (dA 1, 64, .inl (fun _ => 0))), (q6, .inl (dA 2, 256, .inr (.inl (fun _ => 0))))] H := hP
  have hD : va_D A [(h, .inr (3, [.ref q1, .int 0, .ref q2, .ref q3, .ref q4, .ref q5, .int 0, .long 0, .int 0, .ref q6, .int 0])), (q1, .inl (dA 4, 32, .inr (.inr (.inr (.inr (fun _ => none)))))), (q2, .inl (dA 1, 64, .inl (fun _ => 0))), (q3, .inl (dA 2, 64, .inr (.inl (fun _ => 0)))), (q4, .inl (dA 2, 64, .inr (.inl (fun _ => 0)))), (q5, .inl (dA 1, 64, .inl (fun _ => 0))), (q6, .inl (dA 2, 256, .inr (.inl (fun _ => 0))))] := hD
  exact rtV hx hb hr hlk hP hD hS (q1, q2, q3, q4, q5, q6) trivial [0, 1, 2, 3, 4, 5, 6] rfl rfl (by decide) (Nat.le_of_ble_eq_true rfl) (Nat.le_of_ble_eq_true rfl) d_H_init_54
theorem d_R_init_0 : decode prog_8_method_1_code 0 = .ok (.aload_n 0, 1) := by decide +kernel
theorem d_R_init_1 : decode prog_8_method_1_code 1 = .ok (.invokespecial 3, 3) := by decide +kernel
theorem d_R_init_4 : decode prog_8_method_1_code 4 = .ok (.aload_n 0, 1) := by decide +kernel
theorem d_R_init_5 : decode prog_8_method_1_code 5 = .ok (.bipush 6, 2) := by decide +kernel
theorem d_R_init_7 : decode prog_8_method_1_code 7 = .ok (.newarray .int, 2) := by decide +kernel
theorem d_R_init_9 : decode prog_8_method_1_code 9 = .ok (.putfield 9, 3) := by decide +kernel
theorem d_R_init_12 : decode prog_8_method_1_code 12 = .ok (.aload_n 0, 1) := by decide +kernel
theorem d_R_init_13 : decode prog_8_method_1_code 13 = .ok (.bipush 6, 2) := by decide +kernel
theorem d_R_init_15 : decode prog_8_method_1_code 15 = .ok (.newarray .int, 2) := by decide +kernel
theorem d_R_init_17 : decode prog_8_method_1_code 17 = .ok (.putfield 15, 3) := by decide +kernel
theorem d_R_init_20 : decode prog_8_method_1_code 20 = .ok (.aload_n 0, 1) := by decide +kernel
theorem d_R_init_21 : decode prog_8_method_1_code 21 = .ok (.bipush 6, 2) := by decide +kernel
theorem d_R_init_23 : decode prog_8_method_1_code 23 = .ok (.newarray .int, 2) := by decide +kernel
theorem d_R_init_25 : decode prog_8_method_1_code 25 = .ok (.putfield 18, 3) := by decide +kernel
theorem d_R_init_28 : decode prog_8_method_1_code 28 = .ok (.return_, 1) := by decide +kernel
theorem w205 : Cond.methodLink "SeriesVault$SeriesReader" 3 ⟨"java/lang/Object", "<init>", "()V"⟩ ∈ aW := aw_of (tb_1 (List.mem_of_getElem? (i := 191) rfl)) rfl
theorem w206 : Cond.fieldLink "SeriesVault$SeriesReader" 9 "SeriesVault$SeriesReader" "nameStarts" "[I" ∈ aW := aw_of (tb_1 (List.mem_of_getElem? (i := 192) rfl)) rfl
theorem w207 : Cond.fieldLink "SeriesVault$SeriesReader" 15 "SeriesVault$SeriesReader" "nameEnds" "[I" ∈ aW := aw_of (tb_1 (List.mem_of_getElem? (i := 193) rfl)) rfl
theorem w208 : Cond.fieldLink "SeriesVault$SeriesReader" 18 "SeriesVault$SeriesReader" "valueEnds" "[I" ∈ aW := aw_of (tb_1 (List.mem_of_getElem? (i := 194) rfl)) rfl
set_option maxHeartbeats 4000000 in
set_option maxRecDepth 100000 in
theorem c_R_init (l : Launch) (D : va_G) (dA : Nat → ClassId) (sz : Nat) (h : Nat) : Met l ⟨"SeriesVault$SeriesReader", "<init>", "()V"⟩ [Cond.code ⟨"SeriesVault$SeriesReader", "<init>", "()V"⟩ prog_8_method_1_code 1 none] { frames := 1, cells := 3, slots := 18, locals := 12 } (pC D dA [.ref h] [(h, .inr (4, [.null, .null, .null, .int 0, .int 0, .int 0]))] sz) (va_Qv (fun (_ : Nat × Nat × Nat) => True) (fun (u9 : Nat × Nat × Nat) t9 => bW D (va_A [(h, .inr (4, [.null, .null, .null, .int 0, .int 0, .int 0]))] sz) [(h, .inr (4, [.ref u9.1, .ref u9.2.1, .ref u9.2.2, .int 0, .int 0, .int 0])), (u9.1, .inl (dA 1, 6, .inl (fun _ => 0))), (u9.2.1, .inl (dA 1, 6, .inl (fun _ => 0))), (u9.2.2, .inl (dA 1, 6, .inl (fun _ => 0)))] t9) (va_A [(h, .inr (4, [.null, .null, .null, .int 0, .int 0, .int 0]))] sz)) 3 18 (va_A [(h, .inr (4, [.null, .null, .null, .int 0, .int 0, .int 0]))] sz) := by
  refine mkC (Qc := fun A => va_Qv (fun (_ : Nat × Nat × Nat) => True) (fun (u9 : Nat × Nat × Nat) t9 => bW D A [(h, .inr (4, [.ref u9.1, .ref u9.2.1, .ref u9.2.2, .int 0, .int 0, .int 0])), (u9.1, .inl (dA 1, 6, .inl (fun _ => 0))), (u9.2.1, .inl (dA 1, 6, .inl (fun _ => 0))), (u9.2.2, .inl (dA 1, 6, .inl (fun _ => 0)))] t9) A) (by decide) (Nat.le_of_ble_eq_true rfl) ?_
  intro A p e s m below meth c ls hsz hB
  obtain ⟨hx, hb, hr, hml, hown, hin, hlk, hE, hK, hP, hD, hS, hA, hN, hl⟩ := hB
  have hown : s.vm.findClass "SeriesVault$SeriesReader" = some m.cls := hown
  have hin : meth.name = "<init>" := hin
  have hl : lv_has ls 1 [(0, .ref h)] := hl
  obtain ⟨H, hH⟩ : ∃ z, z = s.heap := ⟨_, rfl⟩
  have hP : va_P D vwCl [(h, .inr (4, [.null, .null, .null, .int 0, .int 0, .int 0]))] H := by rw [hH]; exact hP
  have hS : va_S A s.heap H [] := by rw [hH]; exact hS
  rw [← hH]
  refine lv_aload_n hx hb d_R_init_0 rfl (lv_at hl 0 rfl) ?_
  refine oI hx hb hown hE w205 w182 w183 (hl.1.trans hml.symm) d_R_init_1 (Nat.le_of_ble_eq_true rfl) (Nat.le_of_ble_eq_true rfl) ?_
  refine lv_aload_n hx hb d_R_init_4 rfl (lv_at hl 0 rfl) ?_
  refine lv_bipush (v := 6) hx hb d_R_init_5 (by decide) ?_
  refine nwA (atype := .int) (ty := .int) (n := 6) (N' := 6) (a0 := (6, .inl (fun _ => 0))) hx hb hE rfl w184 hK hP hD hS hA 1 rfl (fun _ => rfl) (by decide) (by decide) (Nat.le_of_ble_eq_true rfl) (Nat.le_of_ble_eq_true rfl) (Nat.le_of_ble_eq_true rfl) d_R_init_7 (fun q1 H hP hD hS => ?_)
  have hP : va_P D vwCl [(h, .inr (4, [.null, .null, .null, .int 0, .int 0, .int 0])), (q1, .inl (dA 1, 6, .inl (fun _ => 0)))] H := hP
  have hD : va_D A [(h, .inr (4, [.null, .null, .null, .int 0, .int 0, .int 0])), (q1, .inl (dA 1, 6, .inl (fun _ => 0)))] := hD
  refine pFF hx hb hown hE hK hP hD hS 0 rfl rfl layR tyR tokR nmR 0 (by decide) w206 rfl hin rfl rfl rfl (Nat.le_of_ble_eq_true rfl) d_R_init_9 (fun H locs hP hD hS => ?_)
  have hP : va_P D vwCl [(h, .inr (4, [.ref q1, .null, .null, .int 0, .int 0, .int 0])), (q1, .inl (dA 1, 6, .inl (fun _ => 0)))] H := hP
  have hD : va_D A [(h, .inr (4, [.ref q1, .null, .null, .int 0, .int 0, .int 0])), (q1, .inl (dA 1, 6, .inl (fun _ => 0)))] := hD
  refine lv_aload_n hx hb d_R_init_12 rfl (lv_at hl 0 rfl) ?_
  refine lv_bipush (v := 6) hx hb d_R_init_13 (by decide) ?_
  refine nwA (atype := .int) (ty := .int) (n := 6) (N' := 6) (a0 := (6, .inl (fun _ => 0))) hx hb hE rfl w184 hK hP hD hS hA 1 rfl (fun _ => rfl) (by decide) (by decide) (Nat.le_of_ble_eq_true rfl) (Nat.le_of_ble_eq_true rfl) (Nat.le_of_ble_eq_true rfl) d_R_init_15 (fun q2 H hP hD hS => ?_)
  have hP : va_P D vwCl [(h, .inr (4, [.ref q1, .null, .null, .int 0, .int 0, .int 0])), (q1, .inl (dA 1, 6, .inl (fun _ => 0))), (q2, .inl (dA 1, 6, .inl (fun _ => 0)))] H := hP
  have hD : va_D A [(h, .inr (4, [.ref q1, .null, .null, .int 0, .int 0, .int 0])), (q1, .inl (dA 1, 6, .inl (fun _ => 0))), (q2, .inl (dA 1, 6, .inl (fun _ => 0)))] := hD
  refine pFF hx hb hown hE hK hP hD hS 0 rfl rfl layR tyR tokR nmR 1 (by decide) w207 rfl hin rfl rfl rfl (Nat.le_of_ble_eq_true rfl) d_R_init_17 (fun H locs hP hD hS => ?_)
  have hP : va_P D vwCl [(h, .inr (4, [.ref q1, .ref q2, .null, .int 0, .int 0, .int 0])), (q1, .inl (dA 1, 6, .inl (fun _ => 0))), (q2, .inl (dA 1, 6, .inl (fun _ => 0)))] H := hP
  have hD : va_D A [(h, .inr (4, [.ref q1, .ref q2, .null, .int 0, .int 0, .int 0])), (q1, .inl (dA 1, 6, .inl (fun _ => 0))), (q2, .inl (dA 1, 6, .inl (fun _ => 0)))] := hD
  refine lv_aload_n hx hb d_R_init_20 rfl (lv_at hl 0 rfl) ?_
  refine lv_bipush (v := 6) hx hb d_R_init_21 (by decide) ?_
  refine nwA (atype := .int) (ty := .int) (n := 6) (N' := 6) (a0 := (6, .inl (fun _ => 0))) hx hb hE rfl w184 hK hP hD hS hA 1 rfl (fun _ => rfl) (by decide) (by decide) (Nat.le_of_ble_eq_true rfl) (Nat.le_of_ble_eq_true rfl) (Nat.le_of_ble_eq_true rfl) d_R_init_23 (fun q3 H hP hD hS => ?_)
  have hP : va_P D vwCl [(h, .inr (4, [.ref q1, .ref q2, .null, .int 0, .int 0, .int 0])), (q1, .inl (dA 1, 6, .inl (fun _ => 0))), (q2, .inl (dA 1, 6, .inl (fun _ => 0))), (q3, .inl (dA 1, 6, .inl (fun _ => 0)))] H := hP
  have hD : va_D A [(h, .inr (4, [.ref q1, .ref q2, .null, .int 0, .int 0, .int 0])), (q1, .inl (dA 1, 6, .inl (fun _ => 0))), (q2, .inl (dA 1, 6, .inl (fun _ => 0))), (q3, .inl (dA 1, 6, .inl (fun _ => 0)))] := hD
  refine pFF hx hb hown hE hK hP hD hS 0 rfl rfl layR tyR tokR nmR 2 (by decide) w208 rfl hin rfl rfl rfl (Nat.le_of_ble_eq_true rfl) d_R_init_25 (fun H locs hP hD hS => ?_)
  have hP : va_P D vwCl [(h, .inr (4, [.ref q1, .ref q2, .ref q3, .int 0, .int 0, .int 0])), (q1, .inl (dA 1, 6, .inl (fun _ => 0))), (q2, .inl (dA 1, 6, .inl (fun _ => 0))), (q3, .inl (dA 1, 6, .inl (fun _ => 0)))] H := hP
  have hD : va_D A [(h, .inr (4, [.ref q1, .ref q2, .ref q3, .int 0, .int 0, .int 0])), (q1, .inl (dA 1, 6, .inl (fun _ => 0))), (q2, .inl (dA 1, 6, .inl (fun _ => 0))), (q3, .inl (dA 1, 6, .inl (fun _ => 0)))] := hD
  exact rtV hx hb hr hlk hP hD hS (q1, q2, q3) trivial [0, 1, 2, 3] rfl rfl (by decide) (Nat.le_of_ble_eq_true rfl) (Nat.le_of_ble_eq_true rfl) d_R_init_28
end
section
theorem d_V_written_0 : decode prog_1_method_10_code 0 = .ok (.aload_n 0, 1) := by decide +kernel
theorem d_V_written_1 : decode prog_1_method_10_code 1 = .ok (.getfield 111, 3) := by decide +kernel
theorem d_V_written_4 : decode prog_1_method_10_code 4 = .ok (.ireturn, 1) := by decide +kernel
theorem w209 : Cond.fieldLink "SeriesVault" 111 "SeriesVault" "writes" "I" ∈ aW := aw_of (tb_2 (List.mem_of_getElem? (i := 212) rfl)) rfl
set_option maxHeartbeats 4000000 in
set_option maxRecDepth 100000 in
theorem c_V_written (l : Launch) (D : va_G) (dA : Nat → ClassId) (sz : Nat) (a : Nat) (fs : List Value) (w : Int32) (h_fs_writes : fs[7]? = some (.int w)) (hl_fs : fs.length = 18) : Met l ⟨"SeriesVault", "written", "()I"⟩ [Cond.code ⟨"SeriesVault", "written", "()I"⟩ prog_1_method_10_code 1 (some FieldType.int)] { frames := 1, cells := 0, slots := 0, locals := 0 } (pC D dA [.ref a] [(a, .inr (0, fs))] sz) (va_Qi (fun (r : Int32) (_ : Unit) => r = w) (fun (u9 : Unit) t9 => bW D (va_A [(a, .inr (0, fs))] sz) [(a, .inr (0, fs))] t9) (va_A [(a, .inr (0, fs))] sz)) 0 0 (va_A [(a, .inr (0, fs))] sz) := by
  refine mkC (Qc := fun A => va_Qi (fun (r : Int32) (_ : Unit) => r = w) (fun (u9 : Unit) t9 => bW D A [(a, .inr (0, fs))] t9) A) (by decide) (Nat.le_of_ble_eq_true rfl) ?_
  intro A p e s m below meth c ls hsz hB
  obtain ⟨hx, hb, hr, hml, hown, hin, hlk, hE, hK, hP, hD, hS, hA, hN, hl⟩ := hB
  have hown : s.vm.findClass "SeriesVault" = some m.cls := hown
  have hin : meth.name = "written" := hin
  have hl : lv_has ls 1 [(0, .ref a)] := hl
  obtain ⟨H, hH⟩ : ∃ z, z = s.heap := ⟨_, rfl⟩
  have hP : va_P D vwCl [(a, .inr (0, fs))] H := by rw [hH]; exact hP
  have hS : va_S A s.heap H [] := by rw [hH]; exact hS
  rw [← hH]
  refine lv_aload_n hx hb d_V_written_0 rfl (lv_at hl 0 rfl) ?_
  refine gF (v := .int w) hx hb hown hE hK hP 0 rfl rfl layV 7 (by decide) w209 h_fs_writes d_V_written_1 ?_
  exact rtI hx hb hr hlk hP hD hS () rfl [0] rfl rfl (by decide) (Nat.le_of_ble_eq_true rfl) (Nat.le_of_ble_eq_true rfl) d_V_written_4
theorem d_V_names_0 : decode prog_1_method_46_code 0 = .ok (.aload_n 0, 1) := by decide +kernel
theorem d_V_names_1 : decode prog_1_method_46_code 1 = .ok (.getfield 114, 3) := by decide +kernel
theorem d_V_names_4 : decode prog_1_method_46_code 4 = .ok (.ifCond .eq 16, 3) := by decide +kernel
theorem d_V_names_20 : decode prog_1_method_46_code 20 = .ok (.iconst (-1), 1) := by decide +kernel
theorem d_V_names_21 : decode prog_1_method_46_code 21 = .ok (.ireturn, 1) := by decide +kernel
theorem w210 : Cond.fieldLink "SeriesVault" 114 "SeriesVault" "hasTable" "Z" ∈ aW := aw_of (tb_2 (List.mem_of_getElem? (i := 222) rfl)) rfl
set_option maxHeartbeats 4000000 in
set_option maxRecDepth 100000 in
theorem c_V_names (l : Launch) (D : va_G) (dA : Nat → ClassId) (sz : Nat) (a : Nat) (fs : List Value) (h_fs_hasTable : fs[17]? = some (.int 0)) (hl_fs : fs.length = 18) : Met l ⟨"SeriesVault", "names", "()I"⟩ [Cond.code ⟨"SeriesVault", "names", "()I"⟩ prog_1_method_46_code 1 (some FieldType.int)] { frames := 1, cells := 0, slots := 0, locals := 0 } (pC D dA [.ref a] [(a, .inr (0, fs))] sz) (va_Qi (fun (r : Int32) (_ : Unit) => r = (-1)) (fun (u9 : Unit) t9 => bW D (va_A [(a, .inr (0, fs))] sz) [(a, .inr (0, fs))] t9) (va_A [(a, .inr (0, fs))] sz)) 0 0 (va_A [(a, .inr (0, fs))] sz) := by
  refine mkC (Qc := fun A => va_Qi (fun (r : Int32) (_ : Unit) => r = (-1)) (fun (u9 : Unit) t9 => bW D A [(a, .inr (0, fs))] t9) A) (by decide) (Nat.le_of_ble_eq_true rfl) ?_
  intro A p e s m below meth c ls hsz hB
  obtain ⟨hx, hb, hr, hml, hown, hin, hlk, hE, hK, hP, hD, hS, hA, hN, hl⟩ := hB
  have hown : s.vm.findClass "SeriesVault" = some m.cls := hown
  have hin : meth.name = "names" := hin
  have hl : lv_has ls 1 [(0, .ref a)] := hl
  obtain ⟨H, hH⟩ : ∃ z, z = s.heap := ⟨_, rfl⟩
  have hP : va_P D vwCl [(a, .inr (0, fs))] H := by rw [hH]; exact hP
  have hS : va_S A s.heap H [] := by rw [hH]; exact hS
  rw [← hH]
  refine lv_aload_n hx hb d_V_names_0 rfl (lv_at hl 0 rfl) ?_
  refine gF (v := .int 0) hx hb hown hE hK hP 0 rfl rfl layV 17 (by decide) w210 h_fs_hasTable d_V_names_1 ?_
  refine lv_if_eq hx hb d_V_names_4 (tgt := 20) rfl (fun _ => ?_) (fun h9 => absurd (by decide) h9)
  refine lv_iconst (v := (-1)) hx hb d_V_names_20 (by decide) ?_
  exact rtI hx hb hr hlk hP hD hS () rfl [0] rfl rfl (by decide) (Nat.le_of_ble_eq_true rfl) (Nat.le_of_ble_eq_true rfl) d_V_names_21
theorem d_V_fault_0 : decode prog_1_method_6_code 0 = .ok (.iload_n 1, 1) := by decide +kernel
theorem d_V_fault_1 : decode prog_1_method_6_code 1 = .ok (.ifCond .lt 8, 3) := by decide +kernel
theorem d_V_fault_4 : decode prog_1_method_6_code 4 = .ok (.iload_n 1, 1) := by decide +kernel
theorem d_V_fault_5 : decode prog_1_method_6_code 5 = .ok (.iconst 1, 1) := by decide +kernel
theorem d_V_fault_6 : decode prog_1_method_6_code 6 = .ok (.if_icmp .le 11, 3) := by decide +kernel
theorem d_V_fault_17 : decode prog_1_method_6_code 17 = .ok (.iload_n 1, 1) := by decide +kernel
theorem d_V_fault_18 : decode prog_1_method_6_code 18 = .ok (.ifCond .ne 10, 3) := by decide +kernel
theorem d_V_fault_21 : decode prog_1_method_6_code 21 = .ok (.aload_n 0, 1) := by decide +kernel
theorem d_V_fault_22 : decode prog_1_method_6_code 22 = .ok (.getfield 95, 3) := by decide +kernel
theorem d_V_fault_25 : decode prog_1_method_6_code 25 = .ok (.goto 7, 3) := by decide +kernel
theorem d_V_fault_32 : decode prog_1_method_6_code 32 = .ok (.ireturn, 1) := by decide +kernel
theorem w211 : Cond.fieldLink "SeriesVault" 95 "SeriesVault" "faultCode" "I" ∈ aW := aw_of (tb_2 (List.mem_of_getElem? (i := 207) rfl)) rfl
set_option maxHeartbeats 4000000 in
set_option maxRecDepth 100000 in
theorem c_V_fault_0 (l : Launch) (D : va_G) (dA : Nat → ClassId) (sz : Nat) (a : Nat) (fs : List Value) (fc : Int32) (h_fs_faultCode : fs[2]? = some (.int fc)) (hl_fs : fs.length = 18) : Met l ⟨"SeriesVault", "fault", "(I)I"⟩ [Cond.code ⟨"SeriesVault", "fault", "(I)I"⟩ prog_1_method_6_code 2 (some FieldType.int)] { frames := 1, cells := 0, slots := 0, locals := 0 } (pC D dA [.ref a, .int 0] [(a, .inr (0, fs))] sz) (va_Qi (fun (r : Int32) (_ : Unit) => r = fc) (fun (u9 : Unit) t9 => bW D (va_A [(a, .inr (0, fs))] sz) [(a, .inr (0, fs))] t9) (va_A [(a, .inr (0, fs))] sz)) 0 0 (va_A [(a, .inr (0, fs))] sz) := by
  refine mkC (Qc := fun A => va_Qi (fun (r : Int32) (_ : Unit) => r = fc) (fun (u9 : Unit) t9 => bW D A [(a, .inr (0, fs))] t9) A) (by decide) (Nat.le_of_ble_eq_true rfl) ?_
  intro A p e s m below meth c ls hsz hB
  obtain ⟨hx, hb, hr, hml, hown, hin, hlk, hE, hK, hP, hD, hS, hA, hN, hl⟩ := hB
  have hown : s.vm.findClass "SeriesVault" = some m.cls := hown
  have hin : meth.name = "fault" := hin
  have hl : lv_has ls 2 [(0, .ref a), (1, .int 0)] := hl
  obtain ⟨H, hH⟩ : ∃ z, z = s.heap := ⟨_, rfl⟩
  have hP : va_P D vwCl [(a, .inr (0, fs))] H := by rw [hH]; exact hP
  have hS : va_S A s.heap H [] := by rw [hH]; exact hS
  rw [← hH]
  refine lv_iload_n hx hb d_V_fault_0 rfl (lv_at hl 1 rfl) ?_
  refine lv_if_lt hx hb d_V_fault_1 (tgt := 9) rfl (fun h9 => absurd h9 (by decide)) (fun _ => ?_)
  refine lv_iload_n hx hb d_V_fault_4 rfl (lv_at hl 1 rfl) ?_
  refine lv_iconst (v := 1) hx hb d_V_fault_5 (by decide) ?_
  refine lv_icmp_le hx hb d_V_fault_6 (tgt := 17) rfl (fun _ => ?_) (fun h9 => absurd (by decide) h9)
  refine lv_iload_n hx hb d_V_fault_17 rfl (lv_at hl 1 rfl) ?_
  refine lv_if_ne hx hb d_V_fault_18 (tgt := 28) rfl (fun h9 => absurd (by decide) h9) (fun _ => ?_)
  refine lv_aload_n hx hb d_V_fault_21 rfl (lv_at hl 0 rfl) ?_
  refine gF (v := .int fc) hx hb hown hE hK hP 0 rfl rfl layV 2 (by decide) w211 h_fs_faultCode d_V_fault_22 ?_
  refine lv_goto hx hb d_V_fault_25 (tgt := 32) rfl ?_
  exact rtI hx hb hr hlk hP hD hS () rfl [0] rfl rfl (by decide) (Nat.le_of_ble_eq_true rfl) (Nat.le_of_ble_eq_true rfl) d_V_fault_32
theorem d_V_fault_28 : decode prog_1_method_6_code 28 = .ok (.aload_n 0, 1) := by decide +kernel
theorem d_V_fault_29 : decode prog_1_method_6_code 29 = .ok (.getfield 98, 3) := by decide +kernel
theorem w212 : Cond.fieldLink "SeriesVault" 98 "SeriesVault" "faultPlace" "I" ∈ aW := aw_of (tb_2 (List.mem_of_getElem? (i := 208) rfl)) rfl
set_option maxHeartbeats 4000000 in
set_option maxRecDepth 100000 in
theorem c_V_fault_1 (l : Launch) (D : va_G) (dA : Nat → ClassId) (sz : Nat) (a : Nat) (fs : List Value) (fp : Int32) (h_fs_faultPlace : fs[3]? = some (.int fp)) (hl_fs : fs.length = 18) : Met l ⟨"SeriesVault", "fault", "(I)I"⟩ [Cond.code ⟨"SeriesVault", "fault", "(I)I"⟩ prog_1_method_6_code 2 (some FieldType.int)] { frames := 1, cells := 0, slots := 0, locals := 0 } (pC D dA [.ref a, .int 1] [(a, .inr (0, fs))] sz) (va_Qi (fun (r : Int32) (_ : Unit) => r = fp) (fun (u9 : Unit) t9 => bW D (va_A [(a, .inr (0, fs))] sz) [(a, .inr (0, fs))] t9) (va_A [(a, .inr (0, fs))] sz)) 0 0 (va_A [(a, .inr (0, fs))] sz) := by
  refine mkC (Qc := fun A => va_Qi (fun (r : Int32) (_ : Unit) => r = fp) (fun (u9 : Unit) t9 => bW D A [(a, .inr (0, fs))] t9) A) (by decide) (Nat.le_of_ble_eq_true rfl) ?_
  intro A p e s m below meth c ls hsz hB
  obtain ⟨hx, hb, hr, hml, hown, hin, hlk, hE, hK, hP, hD, hS, hA, hN, hl⟩ := hB
  have hown : s.vm.findClass "SeriesVault" = some m.cls := hown
  have hin : meth.name = "fault" := hin
  have hl : lv_has ls 2 [(0, .ref a), (1, .int 1)] := hl
  obtain ⟨H, hH⟩ : ∃ z, z = s.heap := ⟨_, rfl⟩
  have hP : va_P D vwCl [(a, .inr (0, fs))] H := by rw [hH]; exact hP
  have hS : va_S A s.heap H [] := by rw [hH]; exact hS
  rw [← hH]
  refine lv_iload_n hx hb d_V_fault_0 rfl (lv_at hl 1 rfl) ?_
  refine lv_if_lt hx hb d_V_fault_1 (tgt := 9) rfl (fun h9 => absurd h9 (by decide)) (fun _ => ?_)
  refine lv_iload_n hx hb d_V_fault_4 rfl (lv_at hl 1 rfl) ?_
  refine lv_iconst (v := 1) hx hb d_V_fault_5 (by decide) ?_
  refine lv_icmp_le hx hb d_V_fault_6 (tgt := 17) rfl (fun _ => ?_) (fun h9 => absurd (by decide) h9)
  refine lv_iload_n hx hb d_V_fault_17 rfl (lv_at hl 1 rfl) ?_
  refine lv_if_ne hx hb d_V_fault_18 (tgt := 28) rfl (fun _ => ?_) (fun h9 => absurd h9 (by decide))
  refine lv_aload_n hx hb d_V_fault_28 rfl (lv_at hl 0 rfl) ?_
  refine gF (v := .int fp) hx hb hown hE hK hP 0 rfl rfl layV 3 (by decide) w212 h_fs_faultPlace d_V_fault_29 ?_
  exact rtI hx hb hr hlk hP hD hS () rfl [0] rfl rfl (by decide) (Nat.le_of_ble_eq_true rfl) (Nat.le_of_ble_eq_true rfl) d_V_fault_32
theorem d_V_fault_9 : decode prog_1_method_6_code 9 = .ok (.new 92, 3) := by decide +kernel
theorem d_V_fault_12 : decode prog_1_method_6_code 12 = .ok (.dup, 1) := by decide +kernel
theorem d_V_fault_13 : decode prog_1_method_6_code 13 = .ok (.invokespecial 94, 3) := by decide +kernel
theorem d_V_fault_16 : decode prog_1_method_6_code 16 = .ok (.athrow, 1) := by decide +kernel
theorem w213 : Cond.lays "java/lang/IndexOutOfBoundsException" "java/lang/Throwable" "backtrace" "Ljava/lang/Object;" ∈ aW := aw_of (tb_5 (List.mem_of_getElem? (i := 108) rfl)) rfl
theorem w214 : Cond.lays "java/lang/Throwable" "java/lang/Throwable" "backtrace" "Ljava/lang/Object;" ∈ aW := aw_of (tb_3 (List.mem_of_getElem? (i := 75) rfl)) rfl
theorem w215 : Cond.fieldLink "java/lang/Throwable" 198 "java/lang/Throwable" "backtrace" "Ljava/lang/Object;" ∈ aW := aw_of (tb_3 (List.mem_of_getElem? (i := 76) rfl)) rfl
theorem w216 : Cond.lays "java/lang/IndexOutOfBoundsException" "java/lang/Throwable" "detailMessage" "Ljava/lang/String;" ∈ aW := aw_of (tb_5 (List.mem_of_getElem? (i := 107) rfl)) rfl
theorem w217 : Cond.lays "java/lang/IndexOutOfBoundsException" "java/lang/Throwable" "suppressedExceptions" "Ljava/util/List;" ∈ aW := aw_of (tb_5 (List.mem_of_getElem? (i := 106) rfl)) rfl
theorem w218 : Cond.lays "java/lang/IndexOutOfBoundsException" "java/lang/Throwable" "stackTrace" "[Ljava/lang/StackTraceElement;" ∈ aW := aw_of (tb_5 (List.mem_of_getElem? (i := 105) rfl)) rfl
theorem w219 : Cond.lays "java/lang/IndexOutOfBoundsException" "java/lang/Throwable" "cause" "Ljava/lang/Throwable;" ∈ aW := aw_of (tb_5 (List.mem_of_getElem? (i := 104) rfl)) rfl
theorem w220 : Cond.selects "java/lang/IndexOutOfBoundsException" ⟨"java/lang/Throwable", "fillInStackTrace", "()Ljava/lang/Throwable;"⟩ ⟨"java/lang/Throwable", "fillInStackTrace", "()Ljava/lang/Throwable;"⟩ ∈ aW := aw_of (tb_3 (List.mem_of_getElem? (i := 91) rfl)) rfl
theorem w221 : Cond.selects "java/lang/IndexOutOfBoundsException" ⟨"java/lang/Throwable", "fillInStackTrace", "(I)Ljava/lang/Throwable;"⟩ ⟨"java/lang/Throwable", "fillInStackTrace", "(I)Ljava/lang/Throwable;"⟩ ∈ aW := aw_of (tb_5 (List.mem_of_getElem? (i := 103) rfl)) rfl
theorem w222 : Cond.castable "java/lang/IndexOutOfBoundsException" "java/lang/IndexOutOfBoundsException" ∈ aW := aw_of (tb_5 (List.mem_of_getElem? (i := 102) rfl)) rfl
theorem w223 : Cond.instantiable "java/lang/IndexOutOfBoundsException" 6 ∈ aW := aw_of (tb_5 (List.mem_of_getElem? (i := 101) rfl)) rfl
theorem w224 : Cond.methodLink "SeriesVault" 94 ⟨"java/lang/IndexOutOfBoundsException", "<init>", "()V"⟩ ∈ aW := aw_of (tb_5 (List.mem_of_getElem? (i := 109) rfl)) rfl
theorem w225 : Cond.declares ⟨"java/lang/Throwable", "<init>", "()V"⟩ ∈ aW := aw_of (tb_3 (List.mem_of_getElem? (i := 62) rfl)) rfl
theorem w226 : Cond.instanceMethod ⟨"java/lang/Throwable", "<init>", "()V"⟩ ∈ aW := aw_of (tb_3 (List.mem_of_getElem? (i := 78) rfl)) rfl
theorem w227 : Cond.methodLink "java/lang/Exception" 1 ⟨"java/lang/Throwable", "<init>", "()V"⟩ ∈ aW := aw_of (tb_3 (List.mem_of_getElem? (i := 107) rfl)) rfl
theorem w228 : Cond.code ⟨"java/lang/Exception", "<init>", "()V"⟩ prog_19_method_1_code 1 none ∈ aW := aw_of (tb_3 (List.mem_of_getElem? (i := 106) rfl)) rfl
theorem w229 : Cond.instanceMethod ⟨"java/lang/Exception", "<init>", "()V"⟩ ∈ aW := aw_of (tb_3 (List.mem_of_getElem? (i := 105) rfl)) rfl
theorem w230 : Cond.declares ⟨"java/lang/Exception", "<init>", "()V"⟩ ∈ aW := aw_of (tb_3 (List.mem_of_getElem? (i := 60) rfl)) rfl
theorem w231 : Cond.methodLink "java/lang/RuntimeException" 1 ⟨"java/lang/Exception", "<init>", "()V"⟩ ∈ aW := aw_of (tb_3 (List.mem_of_getElem? (i := 104) rfl)) rfl
theorem w232 : Cond.code ⟨"java/lang/RuntimeException", "<init>", "()V"⟩ prog_27_method_1_code 1 none ∈ aW := aw_of (tb_3 (List.mem_of_getElem? (i := 103) rfl)) rfl
theorem w233 : Cond.instanceMethod ⟨"java/lang/RuntimeException", "<init>", "()V"⟩ ∈ aW := aw_of (tb_3 (List.mem_of_getElem? (i := 102) rfl)) rfl
theorem w234 : Cond.declares ⟨"java/lang/RuntimeException", "<init>", "()V"⟩ ∈ aW := aw_of (tb_3 (List.mem_of_getElem? (i := 58) rfl)) rfl
theorem w235 : Cond.methodLink "java/lang/IndexOutOfBoundsException" 1 ⟨"java/lang/RuntimeException", "<init>", "()V"⟩ ∈ aW := aw_of (tb_5 (List.mem_of_getElem? (i := 112) rfl)) rfl
theorem w236 : Cond.code ⟨"java/lang/IndexOutOfBoundsException", "<init>", "()V"⟩ prog_22_method_1_code 1 none ∈ aW := aw_of (tb_5 (List.mem_of_getElem? (i := 111) rfl)) rfl
theorem w237 : Cond.instanceMethod ⟨"java/lang/IndexOutOfBoundsException", "<init>", "()V"⟩ ∈ aW := aw_of (tb_5 (List.mem_of_getElem? (i := 110) rfl)) rfl
theorem w238 : Cond.lays "java/lang/Throwable" "java/lang/Throwable" "detailMessage" "Ljava/lang/String;" ∈ aW := aw_of (tb_3 (List.mem_of_getElem? (i := 73) rfl)) rfl
theorem w239 : Cond.fieldLink "java/lang/Throwable" 20 "java/lang/Throwable" "SUPPRESSED_SENTINEL" "Ljava/util/List;" ∈ aW := aw_of (tb_3 (List.mem_of_getElem? (i := 83) rfl)) rfl
theorem w240 : Cond.fieldLink "java/lang/Throwable" 13 "java/lang/Throwable" "UNASSIGNED_STACK" "[Ljava/lang/StackTraceElement;" ∈ aW := aw_of (tb_3 (List.mem_of_getElem? (i := 81) rfl)) rfl
theorem w241 : Cond.lays "java/lang/Throwable" "java/lang/Throwable" "suppressedExceptions" "Ljava/util/List;" ∈ aW := aw_of (tb_3 (List.mem_of_getElem? (i := 71) rfl)) rfl
theorem w242 : Cond.fieldLink "java/lang/Throwable" 24 "java/lang/Throwable" "suppressedExceptions" "Ljava/util/List;" ∈ aW := aw_of (tb_3 (List.mem_of_getElem? (i := 112) rfl)) rfl
theorem w243 : Cond.lays "java/lang/Throwable" "java/lang/Throwable" "stackTrace" "[Ljava/lang/StackTraceElement;" ∈ aW := aw_of (tb_3 (List.mem_of_getElem? (i := 69) rfl)) rfl
theorem w244 : Cond.fieldLink "java/lang/Throwable" 17 "java/lang/Throwable" "stackTrace" "[Ljava/lang/StackTraceElement;" ∈ aW := aw_of (tb_3 (List.mem_of_getElem? (i := 111) rfl)) rfl
theorem w245 : Cond.lays "java/lang/Throwable" "java/lang/Throwable" "cause" "Ljava/lang/Throwable;" ∈ aW := aw_of (tb_3 (List.mem_of_getElem? (i := 67) rfl)) rfl
theorem w246 : Cond.fieldLink "java/lang/Throwable" 7 "java/lang/Throwable" "cause" "Ljava/lang/Throwable;" ∈ aW := aw_of (tb_3 (List.mem_of_getElem? (i := 110) rfl)) rfl
theorem w247 : Cond.methodLink "java/lang/Throwable" 202 ⟨"java/lang/Throwable", "fillInStackTrace", "(I)Ljava/lang/Throwable;"⟩ ∈ aW := aw_of (tb_3 (List.mem_of_getElem? (i := 93) rfl)) rfl
theorem w248 : Cond.methodLink "java/lang/Throwable" 27 ⟨"java/lang/Throwable", "fillInStackTrace", "()Ljava/lang/Throwable;"⟩ ∈ aW := aw_of (tb_3 (List.mem_of_getElem? (i := 85) rfl)) rfl
theorem w249 : Cond.methodLink "java/lang/Throwable" 1 ⟨"java/lang/Object", "<init>", "()V"⟩ ∈ aW := aw_of (tb_3 (List.mem_of_getElem? (i := 80) rfl)) rfl
theorem w250 : Cond.code ⟨"java/lang/Throwable", "<init>", "()V"⟩ prog_33_method_1_code 1 none ∈ aW := aw_of (tb_3 (List.mem_of_getElem? (i := 79) rfl)) rfl
theorem w251 : Cond.native ⟨"java/lang/Throwable", "fillInStackTrace", "(I)Ljava/lang/Throwable;"⟩ ∈ aW := aw_of (tb_3 (List.mem_of_getElem? (i := 97) rfl)) rfl
theorem w252 : Cond.instanceMethod ⟨"java/lang/Throwable", "fillInStackTrace", "(I)Ljava/lang/Throwable;"⟩ ∈ aW := aw_of (tb_3 (List.mem_of_getElem? (i := 95) rfl)) rfl
theorem w253 : Cond.codeSync ⟨"java/lang/Throwable", "fillInStackTrace", "()Ljava/lang/Throwable;"⟩ prog_33_method_18_code 1 (some (FieldType.object "java/lang/Throwable")) ∈ aW := aw_of (tb_3 (List.mem_of_getElem? (i := 92) rfl)) rfl
theorem w254 : Cond.instanceMethod ⟨"java/lang/Throwable", "fillInStackTrace", "()Ljava/lang/Throwable;"⟩ ∈ aW := aw_of (tb_3 (List.mem_of_getElem? (i := 86) rfl)) rfl
theorem w255 : Cond.superclass "java/lang/Throwable" "java/lang/Object" ∈ aW := aw_of (tb_3 (List.mem_of_getElem? (i := 77) rfl)) rfl
theorem w256 : Cond.initialized "java/lang/Throwable" ∈ aW := aw_of (tb_1 (List.mem_of_getElem? (i := 17) rfl)) rfl
theorem w257 : Cond.classLink "SeriesVault" 92 "java/lang/IndexOutOfBoundsException" ∈ aW := aw_of (tb_5 (List.mem_of_getElem? (i := 100) rfl)) rfl
theorem w258 : Cond.initialized "java/lang/IndexOutOfBoundsException" ∈ aW := aw_of (tb_1 (List.mem_of_getElem? (i := 32) rfl)) rfl
theorem at_V_IOOBE {s : State} {args : Array Value} (hE : eV s) : ∀ w ∈ Bundle.ownAtoms0 "SeriesVault" 94 "java/lang/IndexOutOfBoundsException" ["java/lang/RuntimeException", "java/lang/Exception"], w.before args s = true := List.forall_mem_cons.mpr ⟨hE.t w256 rfl, List.forall_mem_cons.mpr ⟨hE.t w255 rfl, List.forall_mem_cons.mpr ⟨hE.t w254 rfl, List.forall_mem_cons.mpr ⟨hE.t w253 rfl, List.forall_mem_cons.mpr ⟨hE.t w252 rfl, List.forall_mem_cons.mpr ⟨hE.t w251 rfl, List.forall_mem_cons.mpr ⟨hE.t w226 rfl, List.forall_mem_cons.mpr ⟨hE.t w250 rfl, List.forall_mem_cons.mpr ⟨hE.t w182 rfl, List.forall_mem_cons.mpr ⟨hE.t w183 rfl, List.forall_mem_cons.mpr ⟨hE.t w249 rfl, List.forall_mem_cons.mpr ⟨hE.t w248 rfl, List.forall_mem_cons.mpr ⟨hE.t w247 rfl, List.forall_mem_cons.mpr ⟨hE.t w246 rfl, List.forall_mem_cons.mpr ⟨hE.t w245 rfl, List.forall_mem_cons.mpr ⟨hE.t w244 rfl, List.forall_mem_cons.mpr ⟨hE.t w243 rfl, List.forall_mem_cons.mpr ⟨hE.t w242 rfl, List.forall_mem_cons.mpr ⟨hE.t w241 rfl, List.forall_mem_cons.mpr ⟨hE.t w240 rfl, List.forall_mem_cons.mpr ⟨ho_1 hE.2.1, List.forall_mem_cons.mpr ⟨hE.t w239 rfl, List.forall_mem_cons.mpr ⟨ho_1 hE.2.2.1, List.forall_mem_cons.mpr ⟨hE.t w238 rfl, List.forall_mem_cons.mpr ⟨hE.t w237 rfl, List.forall_mem_cons.mpr ⟨hE.t w236 rfl, List.forall_mem_cons.mpr ⟨hE.t w235 rfl, List.forall_mem_cons.mpr ⟨hE.t w233 rfl, List.forall_mem_cons.mpr ⟨hE.t w234 rfl, List.forall_mem_cons.mpr ⟨hE.t w233 rfl, List.forall_mem_cons.mpr ⟨hE.t w232 rfl, List.forall_mem_cons.mpr ⟨hE.t w231 rfl, List.forall_mem_cons.mpr ⟨hE.t w229 rfl, List.forall_mem_cons.mpr ⟨hE.t w230 rfl, List.forall_mem_cons.mpr ⟨hE.t w229 rfl, List.forall_mem_cons.mpr ⟨hE.t w228 rfl, List.forall_mem_cons.mpr ⟨hE.t w227 rfl, List.forall_mem_cons.mpr ⟨hE.t w226 rfl, List.forall_mem_cons.mpr ⟨hE.t w225 rfl, List.forall_mem_cons.mpr ⟨hE.t w224 rfl, List.forall_mem_cons.mpr ⟨hE.t w223 rfl, List.forall_mem_cons.mpr ⟨hE.t w222 rfl, List.forall_mem_cons.mpr ⟨hE.t w221 rfl, List.forall_mem_cons.mpr ⟨hE.t w220 rfl, List.forall_mem_cons.mpr ⟨hE.t w219 rfl, List.forall_mem_cons.mpr ⟨hE.t w218 rfl, List.forall_mem_cons.mpr ⟨hE.t w217 rfl, List.forall_mem_cons.mpr ⟨hE.t w216 rfl, List.forall_mem_cons.mpr ⟨ho_2 hE.2.2.2.1, List.forall_mem_cons.mpr ⟨ho_2 hE.2.2.2.2.1, List.forall_mem_cons.mpr ⟨hE.t w215 rfl, List.forall_mem_cons.mpr ⟨hE.t w214 rfl, List.forall_mem_cons.mpr ⟨hE.t w213 rfl, fun _ h => absurd h List.not_mem_nil⟩⟩⟩⟩⟩⟩⟩⟩⟩⟩⟩⟩⟩⟩⟩⟩⟩⟩⟩⟩⟩⟩⟩⟩⟩⟩⟩⟩⟩⟩⟩⟩⟩⟩⟩⟩⟩⟩⟩⟩⟩⟩⟩⟩⟩⟩⟩⟩⟩⟩⟩⟩⟩
set_option maxHeartbeats 4000000 in
set_option maxRecDepth 100000 in
theorem c_V_fault_x (l : Launch) (htr : l.stackTraces = false) (D : va_G) (dA : Nat → ClassId) (sz : Nat) (a : Nat) (fs : List Value) (n : Int32) (h0 : n < 0 ∨ 1 < n) (hl_fs : fs.length = 18) : mX l ⟨"SeriesVault", "fault", "(I)I"⟩ [Cond.code ⟨"SeriesVault", "fault", "(I)I"⟩ prog_1_method_6_code 2 (some FieldType.int)] { frames := 6, cells := 1, slots := 6, locals := 81 } (pC D dA [.ref a, .int n] [(a, .inr (0, fs))] sz) "java/lang/IndexOutOfBoundsException" (fun st9 t9 => va_F (va_A [(a, .inr (0, fs))] sz) st9 t9 ∧ bW D (va_A [(a, .inr (0, fs))] sz) [(a, .inr (0, fs))] t9) 1 6 (va_A [(a, .inr (0, fs))] sz) := by
  refine mkX (B := fun A => fun st9 t9 => va_F A st9 t9 ∧ bW D A [(a, .inr (0, fs))] t9) (by decide) (Nat.le_of_ble_eq_true rfl) ?_
  intro A p e s m below meth c ls hsz hno hB
  obtain ⟨hx, hb, hr, hml, hown, hin, hlk, hE, hK, hP, hD, hS, hA, hN, hl⟩ := hB
  have hown : s.vm.findClass "SeriesVault" = some m.cls := hown
  have hin : meth.name = "fault" := hin
  have hl : lv_has ls 2 [(0, .ref a), (1, .int n)] := hl
  obtain ⟨H, hH⟩ : ∃ z, z = s.heap := ⟨_, rfl⟩
  have hP : va_P D vwCl [(a, .inr (0, fs))] H := by rw [hH]; exact hP
  have hS : va_S A s.heap H [] := by rw [hH]; exact hS
  rw [← hH]
  refine lv_iload_n hx hb d_V_fault_0 rfl (lv_at hl 1 rfl) ?_
  refine lv_if_lt hx hb d_V_fault_1 (tgt := 9) rfl (fun hc => ?_) (fun hc => ?_)
  · exact xNew (E := "java/lang/IndexOutOfBoundsException") (names := ["java/lang/RuntimeException", "java/lang/Exception"]) hx hb htr hown (by decide) (by decide) hE w257 w258 (fun U hU => at_V_IOOBE hU) (hN _ _ hS) (hl.1.trans hml.symm) d_V_fault_9 d_V_fault_12 d_V_fault_13 d_V_fault_16 hno (by decide) (Nat.le_of_ble_eq_true rfl) (Nat.le_of_ble_eq_true rfl) (Nat.le_of_ble_eq_true rfl) hlk (fun t h1 h2 => xEnd hP hD hS [0] rfl rfl (by decide) t h1 h2) hS.2.2 (Nat.le_of_ble_eq_true rfl) (Nat.le_of_ble_eq_true rfl)
  · refine lv_iload_n hx hb d_V_fault_4 rfl (lv_at hl 1 rfl) ?_
    refine lv_iconst (v := 1) hx hb d_V_fault_5 (by decide) ?_
    refine lv_icmp_le hx hb d_V_fault_6 (tgt := 17) rfl (fun h9 => absurd h9 (Int32.not_le.mpr (h0.resolve_left hc))) (fun _ => ?_)
    exact xNew (E := "java/lang/IndexOutOfBoundsException") (names := ["java/lang/RuntimeException", "java/lang/Exception"]) hx hb htr hown (by decide) (by decide) hE w257 w258 (fun U hU => at_V_IOOBE hU) (hN _ _ hS) (hl.1.trans hml.symm) d_V_fault_9 d_V_fault_12 d_V_fault_13 d_V_fault_16 hno (by decide) (Nat.le_of_ble_eq_true rfl) (Nat.le_of_ble_eq_true rfl) (Nat.le_of_ble_eq_true rfl) hlk (fun t h1 h2 => xEnd hP hD hS [0] rfl rfl (by decide) t h1 h2) hS.2.2 (Nat.le_of_ble_eq_true rfl) (Nat.le_of_ble_eq_true rfl)
theorem d_V_end_0 : decode prog_1_method_4_code 0 = .ok (.iload_n 1, 1) := by decide +kernel
theorem d_V_end_1 : decode prog_1_method_4_code 1 = .ok (.ifCond .lt 11, 3) := by decide +kernel
theorem d_V_end_4 : decode prog_1_method_4_code 4 = .ok (.iload_n 1, 1) := by decide +kernel
theorem d_V_end_5 : decode prog_1_method_4_code 5 = .ok (.aload_n 0, 1) := by decide +kernel
theorem d_V_end_6 : decode prog_1_method_4_code 6 = .ok (.getfield 71, 3) := by decide +kernel
theorem d_V_end_9 : decode prog_1_method_4_code 9 = .ok (.if_icmp .le 11, 3) := by decide +kernel
theorem d_V_end_20 : decode prog_1_method_4_code 20 = .ok (.aload_n 0, 1) := by decide +kernel
theorem d_V_end_21 : decode prog_1_method_4_code 21 = .ok (.iload_n 1, 1) := by decide +kernel
theorem d_V_end_22 : decode prog_1_method_4_code 22 = .ok (.putfield 71, 3) := by decide +kernel
theorem d_V_end_25 : decode prog_1_method_4_code 25 = .ok (.return_, 1) := by decide +kernel
theorem w259 : Cond.fieldLink "SeriesVault" 71 "SeriesVault" "tapeLength" "I" ∈ aW := aw_of (tb_2 (List.mem_of_getElem? (i := 206) rfl)) rfl
set_option maxHeartbeats 4000000 in
set_option maxRecDepth 100000 in
theorem c_V_end (l : Launch) (D : va_G) (dA : Nat → ClassId) (sz : Nat) (a : Nat) (fs : List Value) (tl : Int32) (n : Int32) (h1 : ¬ n < 0) (h2 : n ≤ tl) (h_fs_tapeLength : fs[1]? = some (.int tl)) (hl_fs : fs.length = 18) : Met l ⟨"SeriesVault", "end", "(I)V"⟩ [Cond.code ⟨"SeriesVault", "end", "(I)V"⟩ prog_1_method_4_code 2 none] { frames := 1, cells := 0, slots := 0, locals := 0 } (pC D dA [.ref a, .int n] [(a, .inr (0, fs))] sz) (va_Qv (fun (_ : Unit) => True) (fun (u9 : Unit) t9 => bW D (va_A [(a, .inr (0, fs))] sz) [(a, .inr (0, (fs.set 1 (.int n))))] t9) (va_A [(a, .inr (0, fs))] sz)) 0 0 (va_A [(a, .inr (0, fs))] sz) := by
  refine mkC (Qc := fun A => va_Qv (fun (_ : Unit) => True) (fun (u9 : Unit) t9 => bW D A [(a, .inr (0, (fs.set 1 (.int n))))] t9) A) (by decide) (Nat.le_of_ble_eq_true rfl) ?_
  intro A p e s m below meth c ls hsz hB
  obtain ⟨hx, hb, hr, hml, hown, hin, hlk, hE, hK, hP, hD, hS, hA, hN, hl⟩ := hB
  have hown : s.vm.findClass "SeriesVault" = some m.cls := hown
  have hin : meth.name = "end" := hin
  have hl : lv_has ls 2 [(0, .ref a), (1, .int n)] := hl
  obtain ⟨H, hH⟩ : ∃ z, z = s.heap := ⟨_, rfl⟩
  have hP : va_P D vwCl [(a, .inr (0, fs))] H := by rw [hH]; exact hP
  have hS : va_S A s.heap H [] := by rw [hH]; exact hS
  rw [← hH]
  refine lv_iload_n hx hb d_V_end_0 rfl (lv_at hl 1 rfl) ?_
  refine lv_if_lt hx hb d_V_end_1 (tgt := 12) rfl (fun h9 => absurd h9 h1) (fun _ => ?_)
  refine lv_iload_n hx hb d_V_end_4 rfl (lv_at hl 1 rfl) ?_
  refine lv_aload_n hx hb d_V_end_5 rfl (lv_at hl 0 rfl) ?_
  refine gF (v := .int tl) hx hb hown hE hK hP 0 rfl rfl layV 1 (by decide) w259 h_fs_tapeLength d_V_end_6 ?_
  refine lv_icmp_le hx hb d_V_end_9 (tgt := 20) rfl (fun _ => ?_) (fun h9 => absurd h2 h9)
  refine lv_aload_n hx hb d_V_end_20 rfl (lv_at hl 0 rfl) ?_
  refine lv_iload_n hx hb d_V_end_21 rfl (lv_at hl 1 rfl) ?_
  refine pF hx hb hown hE hK hP hD hS 0 rfl rfl layV tyV tokV nmV 1 (by decide) w259 rfl rfl rfl (by simp [hl_fs]) d_V_end_22 (fun H locs hP hD hS => ?_)
  have hP : va_P D vwCl [(a, .inr (0, (fs.set 1 (.int n))))] H := hP
  have hD : va_D A [(a, .inr (0, (fs.set 1 (.int n))))] := hD
  exact rtV hx hb hr hlk hP hD hS () trivial [0] rfl rfl (by decide) (Nat.le_of_ble_eq_true rfl) (Nat.le_of_ble_eq_true rfl) d_V_end_25
theorem d_V_end_12 : decode prog_1_method_4_code 12 = .ok (.new 89, 3) := by decide +kernel
theorem d_V_end_15 : decode prog_1_method_4_code 15 = .ok (.dup, 1) := by decide +kernel
theorem d_V_end_16 : decode prog_1_method_4_code 16 = .ok (.invokespecial 91, 3) := by decide +kernel
theorem d_V_end_19 : decode prog_1_method_4_code 19 = .ok (.athrow, 1) := by decide +kernel
theorem w260 : Cond.lays "java/lang/IllegalArgumentException" "java/lang/Throwable" "backtrace" "Ljava/lang/Object;" ∈ aW := aw_of (tb_3 (List.mem_of_getElem? (i := 151) rfl)) rfl
theorem w261 : Cond.lays "java/lang/IllegalArgumentException" "java/lang/Throwable" "detailMessage" "Ljava/lang/String;" ∈ aW := aw_of (tb_3 (List.mem_of_getElem? (i := 150) rfl)) rfl
theorem w262 : Cond.lays "java/lang/IllegalArgumentException" "java/lang/Throwable" "suppressedExceptions" "Ljava/util/List;" ∈ aW := aw_of (tb_3 (List.mem_of_getElem? (i := 149) rfl)) rfl
theorem w263 : Cond.lays "java/lang/IllegalArgumentException" "java/lang/Throwable" "stackTrace" "[Ljava/lang/StackTraceElement;" ∈ aW := aw_of (tb_3 (List.mem_of_getElem? (i := 148) rfl)) rfl
theorem w264 : Cond.lays "java/lang/IllegalArgumentException" "java/lang/Throwable" "cause" "Ljava/lang/Throwable;" ∈ aW := aw_of (tb_3 (List.mem_of_getElem? (i := 147) rfl)) rfl
theorem w265 : Cond.selects "java/lang/IllegalArgumentException" ⟨"java/lang/Throwable", "fillInStackTrace", "()Ljava/lang/Throwable;"⟩ ⟨"java/lang/Throwable", "fillInStackTrace", "()Ljava/lang/Throwable;"⟩ ∈ aW := aw_of (tb_3 (List.mem_of_getElem? (i := 89) rfl)) rfl
theorem w266 : Cond.selects "java/lang/IllegalArgumentException" ⟨"java/lang/Throwable", "fillInStackTrace", "(I)Ljava/lang/Throwable;"⟩ ⟨"java/lang/Throwable", "fillInStackTrace", "(I)Ljava/lang/Throwable;"⟩ ∈ aW := aw_of (tb_3 (List.mem_of_getElem? (i := 146) rfl)) rfl
theorem w267 : Cond.castable "java/lang/IllegalArgumentException" "java/lang/IllegalArgumentException" ∈ aW := aw_of (tb_3 (List.mem_of_getElem? (i := 145) rfl)) rfl
theorem w268 : Cond.instantiable "java/lang/IllegalArgumentException" 6 ∈ aW := aw_of (tb_3 (List.mem_of_getElem? (i := 144) rfl)) rfl
theorem w269 : Cond.methodLink "SeriesVault" 91 ⟨"java/lang/IllegalArgumentException", "<init>", "()V"⟩ ∈ aW := aw_of (tb_3 (List.mem_of_getElem? (i := 152) rfl)) rfl
theorem w270 : Cond.methodLink "java/lang/IllegalArgumentException" 1 ⟨"java/lang/RuntimeException", "<init>", "()V"⟩ ∈ aW := aw_of (tb_3 (List.mem_of_getElem? (i := 155) rfl)) rfl
theorem w271 : Cond.code ⟨"java/lang/IllegalArgumentException", "<init>", "()V"⟩ prog_20_method_1_code 1 none ∈ aW := aw_of (tb_3 (List.mem_of_getElem? (i := 154) rfl)) rfl
theorem w272 : Cond.instanceMethod ⟨"java/lang/IllegalArgumentException", "<init>", "()V"⟩ ∈ aW := aw_of (tb_3 (List.mem_of_getElem? (i := 153) rfl)) rfl
theorem w273 : Cond.classLink "SeriesVault" 89 "java/lang/IllegalArgumentException" ∈ aW := aw_of (tb_3 (List.mem_of_getElem? (i := 143) rfl)) rfl
theorem w274 : Cond.initialized "java/lang/IllegalArgumentException" ∈ aW := aw_of (tb_1 (List.mem_of_getElem? (i := 21) rfl)) rfl
theorem at_V_IAE {s : State} {args : Array Value} (hE : eV s) : ∀ w ∈ Bundle.ownAtoms0 "SeriesVault" 91 "java/lang/IllegalArgumentException" ["java/lang/RuntimeException", "java/lang/Exception"], w.before args s = true := List.forall_mem_cons.mpr ⟨hE.t w256 rfl, List.forall_mem_cons.mpr ⟨hE.t w255 rfl, List.forall_mem_cons.mpr ⟨hE.t w254 rfl, List.forall_mem_cons.mpr ⟨hE.t w253 rfl, List.forall_mem_cons.mpr ⟨hE.t w252 rfl, List.forall_mem_cons.mpr ⟨hE.t w251 rfl, List.forall_mem_cons.mpr ⟨hE.t w226 rfl, List.forall_mem_cons.mpr ⟨hE.t w250 rfl, List.forall_mem_cons.mpr ⟨hE.t w182 rfl, List.forall_mem_cons.mpr ⟨hE.t w183 rfl, List.forall_mem_cons.mpr ⟨hE.t w249 rfl, List.forall_mem_cons.mpr ⟨hE.t w248 rfl, List.forall_mem_cons.mpr ⟨hE.t w247 rfl, List.forall_mem_cons.mpr ⟨hE.t w246 rfl, List.forall_mem_cons.mpr ⟨hE.t w245 rfl, List.forall_mem_cons.mpr ⟨hE.t w244 rfl, List.forall_mem_cons.mpr ⟨hE.t w243 rfl, List.forall_mem_cons.mpr ⟨hE.t w242 rfl, List.forall_mem_cons.mpr ⟨hE.t w241 rfl, List.forall_mem_cons.mpr ⟨hE.t w240 rfl, List.forall_mem_cons.mpr ⟨ho_1 hE.2.1, List.forall_mem_cons.mpr ⟨hE.t w239 rfl, List.forall_mem_cons.mpr ⟨ho_1 hE.2.2.1, List.forall_mem_cons.mpr ⟨hE.t w238 rfl, List.forall_mem_cons.mpr ⟨hE.t w272 rfl, List.forall_mem_cons.mpr ⟨hE.t w271 rfl, List.forall_mem_cons.mpr ⟨hE.t w270 rfl, List.forall_mem_cons.mpr ⟨hE.t w233 rfl, List.forall_mem_cons.mpr ⟨hE.t w234 rfl, List.forall_mem_cons.mpr ⟨hE.t w233 rfl, List.forall_mem_cons.mpr ⟨hE.t w232 rfl, List.forall_mem_cons.mpr ⟨hE.t w231 rfl, List.forall_mem_cons.mpr ⟨hE.t w229 rfl, List.forall_mem_cons.mpr ⟨hE.t w230 rfl, List.forall_mem_cons.mpr ⟨hE.t w229 rfl, List.forall_mem_cons.mpr ⟨hE.t w228 rfl, List.forall_mem_cons.mpr ⟨hE.t w227 rfl, List.forall_mem_cons.mpr ⟨hE.t w226 rfl, List.forall_mem_cons.mpr ⟨hE.t w225 rfl, List.forall_mem_cons.mpr ⟨hE.t w269 rfl, List.forall_mem_cons.mpr ⟨hE.t w268 rfl, List.forall_mem_cons.mpr ⟨hE.t w267 rfl, List.forall_mem_cons.mpr ⟨hE.t w266 rfl, List.forall_mem_cons.mpr ⟨hE.t w265 rfl, List.forall_mem_cons.mpr ⟨hE.t w264 rfl, List.forall_mem_cons.mpr ⟨hE.t w263 rfl, List.forall_mem_cons.mpr ⟨hE.t w262 rfl, List.forall_mem_cons.mpr ⟨hE.t w261 rfl, List.forall_mem_cons.mpr ⟨ho_2 hE.2.2.2.1, List.forall_mem_cons.mpr ⟨ho_2 hE.2.2.2.2.1, List.forall_mem_cons.mpr ⟨hE.t w215 rfl, List.forall_mem_cons.mpr ⟨hE.t w214 rfl, List.forall_mem_cons.mpr ⟨hE.t w260 rfl, fun _ h => absurd h List.not_mem_nil⟩⟩⟩⟩⟩⟩⟩⟩⟩⟩⟩⟩⟩⟩⟩⟩⟩⟩⟩⟩⟩⟩⟩⟩⟩⟩⟩⟩⟩⟩⟩⟩⟩⟩⟩⟩⟩⟩⟩⟩⟩⟩⟩⟩⟩⟩⟩⟩⟩⟩⟩⟩⟩
set_option maxHeartbeats 4000000 in
set_option maxRecDepth 100000 in
theorem c_V_end_x (l : Launch) (htr : l.stackTraces = false) (D : va_G) (dA : Nat → ClassId) (sz : Nat) (a : Nat) (fs : List Value) (tl : Int32) (n : Int32) (h0 : n < 0 ∨ tl < n) (h_fs_tapeLength : fs[1]? = some (.int tl)) (hl_fs : fs.length = 18) : mX l ⟨"SeriesVault", "end", "(I)V"⟩ [Cond.code ⟨"SeriesVault", "end", "(I)V"⟩ prog_1_method_4_code 2 none] { frames := 6, cells := 1, slots := 6, locals := 81 } (pC D dA [.ref a, .int n] [(a, .inr (0, fs))] sz) "java/lang/IllegalArgumentException" (fun st9 t9 => va_F (va_A [(a, .inr (0, fs))] sz) st9 t9 ∧ bW D (va_A [(a, .inr (0, fs))] sz) [(a, .inr (0, fs))] t9) 1 6 (va_A [(a, .inr (0, fs))] sz) := by
  refine mkX (B := fun A => fun st9 t9 => va_F A st9 t9 ∧ bW D A [(a, .inr (0, fs))] t9) (by decide) (Nat.le_of_ble_eq_true rfl) ?_
  intro A p e s m below meth c ls hsz hno hB
  obtain ⟨hx, hb, hr, hml, hown, hin, hlk, hE, hK, hP, hD, hS, hA, hN, hl⟩ := hB
  have hown : s.vm.findClass "SeriesVault" = some m.cls := hown
  have hin : meth.name = "end" := hin
  have hl : lv_has ls 2 [(0, .ref a), (1, .int n)] := hl
  obtain ⟨H, hH⟩ : ∃ z, z = s.heap := ⟨_, rfl⟩
  have hP : va_P D vwCl [(a, .inr (0, fs))] H := by rw [hH]; exact hP
  have hS : va_S A s.heap H [] := by rw [hH]; exact hS
  rw [← hH]
  refine lv_iload_n hx hb d_V_end_0 rfl (lv_at hl 1 rfl) ?_
  refine lv_if_lt hx hb d_V_end_1 (tgt := 12) rfl (fun hc => ?_) (fun hc => ?_)
  · exact xNew (E := "java/lang/IllegalArgumentException") (names := ["java/lang/RuntimeException", "java/lang/Exception"]) hx hb htr hown (by decide) (by decide) hE w273 w274 (fun U hU => at_V_IAE hU) (hN _ _ hS) (hl.1.trans hml.symm) d_V_end_12 d_V_end_15 d_V_end_16 d_V_end_19 hno (by decide) (Nat.le_of_ble_eq_true rfl) (Nat.le_of_ble_eq_true rfl) (Nat.le_of_ble_eq_true rfl) hlk (fun t h1 h2 => xEnd hP hD hS [0] rfl rfl (by decide) t h1 h2) hS.2.2 (Nat.le_of_ble_eq_true rfl) (Nat.le_of_ble_eq_true rfl)
  · refine lv_iload_n hx hb d_V_end_4 rfl (lv_at hl 1 rfl) ?_
    refine lv_aload_n hx hb d_V_end_5 rfl (lv_at hl 0 rfl) ?_
    refine gF (v := .int tl) hx hb hown hE hK hP 0 rfl rfl layV 1 (by decide) w259 h_fs_tapeLength d_V_end_6 ?_
    refine lv_icmp_le hx hb d_V_end_9 (tgt := 20) rfl (fun h9 => absurd h9 (Int32.not_le.mpr (h0.resolve_left hc))) (fun _ => ?_)
    exact xNew (E := "java/lang/IllegalArgumentException") (names := ["java/lang/RuntimeException", "java/lang/Exception"]) hx hb htr hown (by decide) (by decide) hE w273 w274 (fun U hU => at_V_IAE hU) (hN _ _ hS) (hl.1.trans hml.symm) d_V_end_12 d_V_end_15 d_V_end_16 d_V_end_19 hno (by decide) (Nat.le_of_ble_eq_true rfl) (Nat.le_of_ble_eq_true rfl) (Nat.le_of_ble_eq_true rfl) hlk (fun t h1 h2 => xEnd hP hD hS [0] rfl rfl (by decide) t h1 h2) hS.2.2 (Nat.le_of_ble_eq_true rfl) (Nat.le_of_ble_eq_true rfl)
theorem d_V_checkPower_0 : decode prog_1_method_13_code 0 = .ok (.aload_n 0, 1) := by decide +kernel
theorem d_V_checkPower_1 : decode prog_1_method_13_code 1 = .ok (.getfield 104, 3) := by decide +kernel
theorem d_V_checkPower_4 : decode prog_1_method_13_code 4 = .ok (.ifCond .ne 11, 3) := by decide +kernel
theorem d_V_checkPower_15 : decode prog_1_method_13_code 15 = .ok (.return_, 1) := by decide +kernel
theorem w275 : Cond.fieldLink "SeriesVault" 104 "SeriesVault" "powered" "Z" ∈ aW := aw_of (tb_2 (List.mem_of_getElem? (i := 210) rfl)) rfl
set_option maxHeartbeats 4000000 in
set_option maxRecDepth 100000 in
theorem c_V_checkPower (l : Launch) (D : va_G) (dA : Nat → ClassId) (sz : Nat) (a : Nat) (fs : List Value) (h_fs_powered : fs[5]? = some (.int 1)) (hl_fs : fs.length = 18) : Met l ⟨"SeriesVault", "checkPower", "()V"⟩ [Cond.code ⟨"SeriesVault", "checkPower", "()V"⟩ prog_1_method_13_code 1 none] { frames := 1, cells := 0, slots := 0, locals := 0 } (pC D dA [.ref a] [(a, .inr (0, fs))] sz) (va_Qv (fun (_ : Unit) => True) (fun (u9 : Unit) t9 => bW D (va_A [(a, .inr (0, fs))] sz) [(a, .inr (0, fs))] t9) (va_A [(a, .inr (0, fs))] sz)) 0 0 (va_A [(a, .inr (0, fs))] sz) := by
  refine mkC (Qc := fun A => va_Qv (fun (_ : Unit) => True) (fun (u9 : Unit) t9 => bW D A [(a, .inr (0, fs))] t9) A) (by decide) (Nat.le_of_ble_eq_true rfl) ?_
  intro A p e s m below meth c ls hsz hB
  obtain ⟨hx, hb, hr, hml, hown, hin, hlk, hE, hK, hP, hD, hS, hA, hN, hl⟩ := hB
  have hown : s.vm.findClass "SeriesVault" = some m.cls := hown
  have hin : meth.name = "checkPower" := hin
  have hl : lv_has ls 1 [(0, .ref a)] := hl
  obtain ⟨H, hH⟩ : ∃ z, z = s.heap := ⟨_, rfl⟩
  have hP : va_P D vwCl [(a, .inr (0, fs))] H := by rw [hH]; exact hP
  have hS : va_S A s.heap H [] := by rw [hH]; exact hS
  rw [← hH]
  refine lv_aload_n hx hb d_V_checkPower_0 rfl (lv_at hl 0 rfl) ?_
  refine gF (v := .int 1) hx hb hown hE hK hP 0 rfl rfl layV 5 (by decide) w275 h_fs_powered d_V_checkPower_1 ?_
  refine lv_if_ne hx hb d_V_checkPower_4 (tgt := 15) rfl (fun _ => ?_) (fun h9 => absurd h9 (by decide))
  exact rtV hx hb hr hlk hP hD hS () trivial [0] rfl rfl (by decide) (Nat.le_of_ble_eq_true rfl) (Nat.le_of_ble_eq_true rfl) d_V_checkPower_15
theorem d_V_off_0 : decode prog_1_method_12_code 0 = .ok (.aload_n 0, 1) := by decide +kernel
theorem d_V_off_1 : decode prog_1_method_12_code 1 = .ok (.invokevirtual 124, 3) := by decide +kernel
theorem d_V_off_4 : decode prog_1_method_12_code 4 = .ok (.aload_n 0, 1) := by decide +kernel
theorem d_V_off_5 : decode prog_1_method_12_code 5 = .ok (.iconst 0, 1) := by decide +kernel
theorem d_V_off_6 : decode prog_1_method_12_code 6 = .ok (.putfield 104, 3) := by decide +kernel
theorem d_V_off_9 : decode prog_1_method_12_code 9 = .ok (.return_, 1) := by decide +kernel
theorem w276 : Cond.methodLink "SeriesVault" 124 ⟨"SeriesVault", "checkPower", "()V"⟩ ∈ aW := aw_of (tb_3 (List.mem_of_getElem? (i := 173) rfl)) rfl
theorem w277 : Cond.initialized "SeriesVault" ∈ aW := aw_of (tb_1 (List.mem_of_getElem? (i := 1) rfl)) rfl
theorem w278 : Cond.code ⟨"SeriesVault", "checkPower", "()V"⟩ prog_1_method_13_code 1 none ∈ aW := aw_of (tb_3 (List.mem_of_getElem? (i := 176) rfl)) rfl
theorem w279 : Cond.instanceMethod ⟨"SeriesVault", "checkPower", "()V"⟩ ∈ aW := aw_of (tb_3 (List.mem_of_getElem? (i := 175) rfl)) rfl
theorem w280 : Cond.selects "SeriesVault" ⟨"SeriesVault", "checkPower", "()V"⟩ ⟨"SeriesVault", "checkPower", "()V"⟩ ∈ aW := aw_pr (List.mem_map.mpr ⟨_, pv_1 (List.mem_of_getElem? (i := 6) rfl), rfl⟩) rfl
set_option maxHeartbeats 4000000 in
set_option maxRecDepth 100000 in
theorem c_V_off (l : Launch) (D : va_G) (dA : Nat → ClassId) (sz : Nat) (a : Nat) (fs : List Value) (h_fs_powered : fs[5]? = some (.int 1)) (hl_fs : fs.length = 18) : Met l ⟨"SeriesVault", "off", "()V"⟩ [Cond.code ⟨"SeriesVault", "off", "()V"⟩ prog_1_method_12_code 1 none] { frames := 2, cells := 0, slots := 0, locals := 20 } (pC D dA [.ref a] [(a, .inr (0, fs))] sz) (va_Qv (fun (_ : Unit) => True) (fun (u9 : Unit) t9 => bW D (va_A [(a, .inr (0, fs))] sz) [(a, .inr (0, (fs.set 5 (.int 0))))] t9) (va_A [(a, .inr (0, fs))] sz)) 0 0 (va_A [(a, .inr (0, fs))] sz) := by
  refine mkC (Qc := fun A => va_Qv (fun (_ : Unit) => True) (fun (u9 : Unit) t9 => bW D A [(a, .inr (0, (fs.set 5 (.int 0))))] t9) A) (by decide) (Nat.le_of_ble_eq_true rfl) ?_
  intro A p e s m below meth c ls hsz hB
  obtain ⟨hx, hb, hr, hml, hown, hin, hlk, hE, hK, hP, hD, hS, hA, hN, hl⟩ := hB
  have hown : s.vm.findClass "SeriesVault" = some m.cls := hown
  have hin : meth.name = "off" := hin
  have hl : lv_has ls 1 [(0, .ref a)] := hl
  obtain ⟨H, hH⟩ : ∃ z, z = s.heap := ⟨_, rfl⟩
  have hP : va_P D vwCl [(a, .inr (0, fs))] H := by rw [hH]; exact hP
  have hS : va_S A s.heap H [] := by rw [hH]; exact hS
  rw [← hH]
  refine lv_aload_n hx hb d_V_off_0 rfl (lv_at hl 0 rfl) ?_
  have hPc := hP.sub (ws' := [(a, .inr (0, fs))]) [0] rfl
  have hDc := hD.sub (ws' := [(a, .inr (0, fs))]) [0] (by decide) rfl
  refine jnV (rnV (As := []) (rest := []) hx hb hml hown hE hK (hN _ _ hS) hPc hDc (c_V_checkPower l D dA H.size a fs h_fs_powered hl_fs) (q0 := 0) rfl rfl w278 w276 w279 w280 w277 rfl rfl ⟨⟨by decide, by decide⟩, rfl⟩ ⟨(Nat.le_of_ble_eq_true rfl), (Nat.le_of_ble_eq_true rfl)⟩ rfl hl.1 rfl (Nat.le_of_ble_eq_true rfl) d_V_off_1 ⟨(Nat.le_of_ble_eq_true rfl), (Nat.le_of_ble_eq_true rfl)⟩) hP hD hS hA [0] [] (wr := []) rfl rfl (by decide) (by decide) (fun u9 H locs hp9 hP hD hS => ?_)
  have hP : va_P D vwCl [(a, .inr (0, fs))] H := hP
  have hD : va_D A [(a, .inr (0, fs))] := hD
  refine lv_aload_n hx hb d_V_off_4 rfl (lv_at hl 0 rfl) ?_
  refine lv_iconst (v := 0) hx hb d_V_off_5 (by decide) ?_
  refine pF hx hb hown hE hK hP hD hS 0 rfl rfl layV tyV tokV nmV 5 (by decide) w275 rfl rfl rfl (by simp [hl_fs]) d_V_off_6 (fun H locs hP hD hS => ?_)
  have hP : va_P D vwCl [(a, .inr (0, (fs.set 5 (.int 0))))] H := hP
  have hD : va_D A [(a, .inr (0, (fs.set 5 (.int 0))))] := hD
  exact rtV hx hb hr hlk hP hD hS () trivial [0] rfl rfl (by decide) (Nat.le_of_ble_eq_true rfl) (Nat.le_of_ble_eq_true rfl) d_V_off_9
theorem d_V_cut_0 : decode prog_1_method_11_code 0 = .ok (.aload_n 0, 1) := by decide +kernel
theorem d_V_cut_1 : decode prog_1_method_11_code 1 = .ok (.invokevirtual 124, 3) := by decide +kernel
theorem d_V_cut_4 : decode prog_1_method_11_code 4 = .ok (.iload_n 1, 1) := by decide +kernel
theorem d_V_cut_5 : decode prog_1_method_11_code 5 = .ok (.iconst (-1), 1) := by decide +kernel
theorem d_V_cut_6 : decode prog_1_method_11_code 6 = .ok (.if_icmp .ge 11, 3) := by decide +kernel
theorem d_V_cut_17 : decode prog_1_method_11_code 17 = .ok (.aload_n 0, 1) := by decide +kernel
theorem d_V_cut_18 : decode prog_1_method_11_code 18 = .ok (.iload_n 1, 1) := by decide +kernel
theorem d_V_cut_19 : decode prog_1_method_11_code 19 = .ok (.putfield 108, 3) := by decide +kernel
theorem d_V_cut_22 : decode prog_1_method_11_code 22 = .ok (.return_, 1) := by decide +kernel
theorem w281 : Cond.fieldLink "SeriesVault" 108 "SeriesVault" "cutLeft" "I" ∈ aW := aw_of (tb_2 (List.mem_of_getElem? (i := 211) rfl)) rfl
set_option maxHeartbeats 4000000 in
set_option maxRecDepth 100000 in
theorem c_V_cut (l : Launch) (D : va_G) (dA : Nat → ClassId) (sz : Nat) (a : Nat) (fs : List Value) (n : Int32) (h1 : (-1) ≤ n) (h_fs_powered : fs[5]? = some (.int 1)) (hl_fs : fs.length = 18) : Met l ⟨"SeriesVault", "cut", "(I)V"⟩ [Cond.code ⟨"SeriesVault", "cut", "(I)V"⟩ prog_1_method_11_code 2 none] { frames := 2, cells := 0, slots := 0, locals := 20 } (pC D dA [.ref a, .int n] [(a, .inr (0, fs))] sz) (va_Qv (fun (_ : Unit) => True) (fun (u9 : Unit) t9 => bW D (va_A [(a, .inr (0, fs))] sz) [(a, .inr (0, (fs.set 6 (.int n))))] t9) (va_A [(a, .inr (0, fs))] sz)) 0 0 (va_A [(a, .inr (0, fs))] sz) := by
  refine mkC (Qc := fun A => va_Qv (fun (_ : Unit) => True) (fun (u9 : Unit) t9 => bW D A [(a, .inr (0, (fs.set 6 (.int n))))] t9) A) (by decide) (Nat.le_of_ble_eq_true rfl) ?_
  intro A p e s m below meth c ls hsz hB
  obtain ⟨hx, hb, hr, hml, hown, hin, hlk, hE, hK, hP, hD, hS, hA, hN, hl⟩ := hB
  have hown : s.vm.findClass "SeriesVault" = some m.cls := hown
  have hin : meth.name = "cut" := hin
  have hl : lv_has ls 2 [(0, .ref a), (1, .int n)] := hl
  obtain ⟨H, hH⟩ : ∃ z, z = s.heap := ⟨_, rfl⟩
  have hP : va_P D vwCl [(a, .inr (0, fs))] H := by rw [hH]; exact hP
  have hS : va_S A s.heap H [] := by rw [hH]; exact hS
  rw [← hH]
  refine lv_aload_n hx hb d_V_cut_0 rfl (lv_at hl 0 rfl) ?_
  have hPc := hP.sub (ws' := [(a, .inr (0, fs))]) [0] rfl
  have hDc := hD.sub (ws' := [(a, .inr (0, fs))]) [0] (by decide) rfl
  refine jnV (rnV (As := []) (rest := []) hx hb hml hown hE hK (hN _ _ hS) hPc hDc (c_V_checkPower l D dA H.size a fs h_fs_powered hl_fs) (q0 := 0) rfl rfl w278 w276 w279 w280 w277 rfl rfl ⟨⟨by decide, by decide⟩, rfl⟩ ⟨(Nat.le_of_ble_eq_true rfl), (Nat.le_of_ble_eq_true rfl)⟩ rfl hl.1 rfl (Nat.le_of_ble_eq_true rfl) d_V_cut_1 ⟨(Nat.le_of_ble_eq_true rfl), (Nat.le_of_ble_eq_true rfl)⟩) hP hD hS hA [0] [] (wr := []) rfl rfl (by decide) (by decide) (fun u9 H locs hp9 hP hD hS => ?_)
  have hP : va_P D vwCl [(a, .inr (0, fs))] H := hP
  have hD : va_D A [(a, .inr (0, fs))] := hD
  refine lv_iload_n hx hb d_V_cut_4 rfl (lv_at hl 1 rfl) ?_
  refine lv_iconst (v := (-1)) hx hb d_V_cut_5 (by decide) ?_
  refine lv_icmp_ge hx hb d_V_cut_6 (tgt := 17) rfl (fun _ => ?_) (fun h9 => absurd h1 h9)
  refine lv_aload_n hx hb d_V_cut_17 rfl (lv_at hl 0 rfl) ?_
  refine lv_iload_n hx hb d_V_cut_18 rfl (lv_at hl 1 rfl) ?_
  refine pF hx hb hown hE hK hP hD hS 0 rfl rfl layV tyV tokV nmV 6 (by decide) w281 rfl rfl rfl (by simp [hl_fs]) d_V_cut_19 (fun H locs hP hD hS => ?_)
  have hP : va_P D vwCl [(a, .inr (0, (fs.set 6 (.int n))))] H := hP
  have hD : va_D A [(a, .inr (0, (fs.set 6 (.int n))))] := hD
  exact rtV hx hb hr hlk hP hD hS () trivial [0] rfl rfl (by decide) (Nat.le_of_ble_eq_true rfl) (Nat.le_of_ble_eq_true rfl) d_V_cut_22
theorem d_V_cut_9 : decode prog_1_method_11_code 9 = .ok (.new 89, 3) := by decide +kernel
theorem d_V_cut_12 : decode prog_1_method_11_code 12 = .ok (.dup, 1) := by decide +kernel
theorem d_V_cut_13 : decode prog_1_method_11_code 13 = .ok (.invokespecial 91, 3) := by decide +kernel
theorem d_V_cut_16 : decode prog_1_method_11_code 16 = .ok (.athrow, 1) := by decide +kernel
set_option maxHeartbeats 4000000 in
set_option maxRecDepth 100000 in
theorem c_V_cut_x (l : Launch) (htr : l.stackTraces = false) (D : va_G) (dA : Nat → ClassId) (sz : Nat) (a : Nat) (fs : List Value) (n : Int32) (h1 : n < (-1)) (h_fs_powered : fs[5]? = some (.int 1)) (hl_fs : fs.length = 18) : mX l ⟨"SeriesVault", "cut", "(I)V"⟩ [Cond.code ⟨"SeriesVault", "cut", "(I)V"⟩ prog_1_method_11_code 2 none] { frames := 6, cells := 1, slots := 6, locals := 81 } (pC D dA [.ref a, .int n] [(a, .inr (0, fs))] sz) "java/lang/IllegalArgumentException" (fun st9 t9 => va_F (va_A [(a, .inr (0, fs))] sz) st9 t9 ∧ bW D (va_A [(a, .inr (0, fs))] sz) [(a, .inr (0, fs))] t9) 1 6 (va_A [(a, .inr (0, fs))] sz) := by
  refine mkX (B := fun A => fun st9 t9 => va_F A st9 t9 ∧ bW D A [(a, .inr (0, fs))] t9) (by decide) (Nat.le_of_ble_eq_true rfl) ?_
  intro A p e s m below meth c ls hsz hno hB
  obtain ⟨hx, hb, hr, hml, hown, hin, hlk, hE, hK, hP, hD, hS, hA, hN, hl⟩ := hB
  have hown : s.vm.findClass "SeriesVault" = some m.cls := hown
  have hin : meth.name = "cut" := hin
  have hl : lv_has ls 2 [(0, .ref a), (1, .int n)] := hl
  obtain ⟨H, hH⟩ : ∃ z, z = s.heap := ⟨_, rfl⟩
  have hP : va_P D vwCl [(a, .inr (0, fs))] H := by rw [hH]; exact hP
  have hS : va_S A s.heap H [] := by rw [hH]; exact hS
  rw [← hH]
  refine lv_aload_n hx hb d_V_cut_0 rfl (lv_at hl 0 rfl) ?_
  have hPc := hP.sub (ws' := [(a, .inr (0, fs))]) [0] rfl
  have hDc := hD.sub (ws' := [(a, .inr (0, fs))]) [0] (by decide) rfl
  refine jnV (rnV (As := []) (rest := []) hx hb hml hown hE hK (hN _ _ hS) hPc hDc (c_V_checkPower l D dA H.size a fs h_fs_powered hl_fs) (q0 := 0) rfl rfl w278 w276 w279 w280 w277 rfl rfl ⟨⟨by decide, by decide⟩, rfl⟩ ⟨(Nat.le_of_ble_eq_true rfl), (Nat.le_of_ble_eq_true rfl)⟩ rfl hl.1 rfl (Nat.le_of_ble_eq_true rfl) d_V_cut_1 ⟨(Nat.le_of_ble_eq_true rfl), (Nat.le_of_ble_eq_true rfl)⟩) hP hD hS hA [0] [] (wr := []) rfl rfl (by decide) (by decide) (fun u9 H locs hp9 hP hD hS => ?_)
  have hP : va_P D vwCl [(a, .inr (0, fs))] H := hP
  have hD : va_D A [(a, .inr (0, fs))] := hD
  refine lv_iload_n hx hb d_V_cut_4 rfl (lv_at hl 1 rfl) ?_
  refine lv_iconst (v := (-1)) hx hb d_V_cut_5 (by decide) ?_
  refine lv_icmp_ge hx hb d_V_cut_6 (tgt := 17) rfl (fun h9 => absurd h9 (Int32.not_le.mpr (h1))) (fun _ => ?_)
  exact xNew (E := "java/lang/IllegalArgumentException") (names := ["java/lang/RuntimeException", "java/lang/Exception"]) hx hb htr hown (by decide) (by decide) hE w273 w274 (fun U hU => at_V_IAE hU) (hN _ _ hS) (hl.1.trans hml.symm) d_V_cut_9 d_V_cut_12 d_V_cut_13 d_V_cut_16 hno (by decide) (Nat.le_of_ble_eq_true rfl) (Nat.le_of_ble_eq_true rfl) (Nat.le_of_ble_eq_true rfl) hlk (fun t h1 h2 => xEnd hP hD hS [0] rfl rfl (by decide) t h1 h2) hS.2.2 (Nat.le_of_ble_eq_true rfl) (Nat.le_of_ble_eq_true rfl)
theorem d_V_start_0 : decode prog_1_method_18_code 0 = .ok (.aload_n 0, 1) := by decide +kernel
theorem d_V_start_1 : decode prog_1_method_18_code 1 = .ok (.getfield 104, 3) := by decide +kernel
theorem d_V_start_4 : decode prog_1_method_18_code 4 = .ok (.ifCond .eq 11, 3) := by decide +kernel
theorem d_V_start_7 : decode prog_1_method_18_code 7 = .ok (.new 127, 3) := by decide +kernel
theorem d_V_start_10 : decode prog_1_method_18_code 10 = .ok (.dup, 1) := by decide +kernel
theorem d_V_start_11 : decode prog_1_method_18_code 11 = .ok (.invokespecial 129, 3) := by decide +kernel
theorem d_V_start_14 : decode prog_1_method_18_code 14 = .ok (.athrow, 1) := by decide +kernel
theorem w282 : Cond.lays "java/lang/IllegalStateException" "java/lang/Throwable" "backtrace" "Ljava/lang/Object;" ∈ aW := aw_of (tb_3 (List.mem_of_getElem? (i := 185) rfl)) rfl
theorem w283 : Cond.lays "java/lang/IllegalStateException" "java/lang/Throwable" "detailMessage" "Ljava/lang/String;" ∈ aW := aw_of (tb_3 (List.mem_of_getElem? (i := 184) rfl)) rfl
theorem w284 : Cond.lays "java/lang/IllegalStateException" "java/lang/Throwable" "suppressedExceptions" "Ljava/util/List;" ∈ aW := aw_of (tb_3 (List.mem_of_getElem? (i := 183) rfl)) rfl
theorem w285 : Cond.lays "java/lang/IllegalStateException" "java/lang/Throwable" "stackTrace" "[Ljava/lang/StackTraceElement;" ∈ aW := aw_of (tb_3 (List.mem_of_getElem? (i := 182) rfl)) rfl
theorem w286 : Cond.lays "java/lang/IllegalStateException" "java/lang/Throwable" "cause" "Ljava/lang/Throwable;" ∈ aW := aw_of (tb_3 (List.mem_of_getElem? (i := 181) rfl)) rfl
theorem w287 : Cond.selects "java/lang/IllegalStateException" ⟨"java/lang/Throwable", "fillInStackTrace", "()Ljava/lang/Throwable;"⟩ ⟨"java/lang/Throwable", "fillInStackTrace", "()Ljava/lang/Throwable;"⟩ ∈ aW := aw_of (tb_3 (List.mem_of_getElem? (i := 90) rfl)) rfl
theorem w288 : Cond.selects "java/lang/IllegalStateException" ⟨"java/lang/Throwable", "fillInStackTrace", "(I)Ljava/lang/Throwable;"⟩ ⟨"java/lang/Throwable", "fillInStackTrace", "(I)Ljava/lang/Throwable;"⟩ ∈ aW := aw_of (tb_3 (List.mem_of_getElem? (i := 180) rfl)) rfl
theorem w289 : Cond.castable "java/lang/IllegalStateException" "java/lang/IllegalStateException" ∈ aW := aw_of (tb_3 (List.mem_of_getElem? (i := 179) rfl)) rfl
theorem w290 : Cond.instantiable "java/lang/IllegalStateException" 6 ∈ aW := aw_of (tb_3 (List.mem_of_getElem? (i := 178) rfl)) rfl
theorem w291 : Cond.methodLink "SeriesVault" 129 ⟨"java/lang/IllegalStateException", "<init>", "()V"⟩ ∈ aW := aw_of (tb_3 (List.mem_of_getElem? (i := 186) rfl)) rfl
theorem w292 : Cond.methodLink "java/lang/IllegalStateException" 1 ⟨"java/lang/RuntimeException", "<init>", "()V"⟩ ∈ aW := aw_of (tb_3 (List.mem_of_getElem? (i := 189) rfl)) rfl
theorem w293 : Cond.code ⟨"java/lang/IllegalStateException", "<init>", "()V"⟩ prog_21_method_1_code 1 none ∈ aW := aw_of (tb_3 (List.mem_of_getElem? (i := 188) rfl)) rfl
theorem w294 : Cond.instanceMethod ⟨"java/lang/IllegalStateException", "<init>", "()V"⟩ ∈ aW := aw_of (tb_3 (List.mem_of_getElem? (i := 187) rfl)) rfl
theorem w295 : Cond.classLink "SeriesVault" 127 "java/lang/IllegalStateException" ∈ aW := aw_of (tb_3 (List.mem_of_getElem? (i := 177) rfl)) rfl
theorem w296 : Cond.initialized "java/lang/IllegalStateException" ∈ aW := aw_of (tb_1 (List.mem_of_getElem? (i := 22) rfl)) rfl
theorem at_V_ISE {s : State} {args : Array Value} (hE : eV s) : ∀ w ∈ Bundle.ownAtoms0 "SeriesVault" 129 "java/lang/IllegalStateException" ["java/lang/RuntimeException", "java/lang/Exception"], w.before args s = true := List.forall_mem_cons.mpr ⟨hE.t w256 rfl, List.forall_mem_cons.mpr ⟨hE.t w255 rfl, List.forall_mem_cons.mpr ⟨hE.t w254 rfl, List.forall_mem_cons.mpr ⟨hE.t w253 rfl, List.forall_mem_cons.mpr ⟨hE.t w252 rfl, List.forall_mem_cons.mpr ⟨hE.t w251 rfl, List.forall_mem_cons.mpr ⟨hE.t w226 rfl, List.forall_mem_cons.mpr ⟨hE.t w250 rfl, List.forall_mem_cons.mpr ⟨hE.t w182 rfl, List.forall_mem_cons.mpr ⟨hE.t w183 rfl, List.forall_mem_cons.mpr ⟨hE.t w249 rfl, List.forall_mem_cons.mpr ⟨hE.t w248 rfl, List.forall_mem_cons.mpr ⟨hE.t w247 rfl, List.forall_mem_cons.mpr ⟨hE.t w246 rfl, List.forall_mem_cons.mpr ⟨hE.t w245 rfl, List.forall_mem_cons.mpr ⟨hE.t w244 rfl, List.forall_mem_cons.mpr ⟨hE.t w243 rfl, List.forall_mem_cons.mpr ⟨hE.t w242 rfl, List.forall_mem_cons.mpr ⟨hE.t w241 rfl, List.forall_mem_cons.mpr ⟨hE.t w240 rfl, List.forall_mem_cons.mpr ⟨ho_1 hE.2.1, List.forall_mem_cons.mpr ⟨hE.t w239 rfl, List.forall_mem_cons.mpr ⟨ho_1 hE.2.2.1, List.forall_mem_cons.mpr ⟨hE.t w238 rfl, List.forall_mem_cons.mpr ⟨hE.t w294 rfl, List.forall_mem_cons.mpr ⟨hE.t w293 rfl, List.forall_mem_cons.mpr ⟨hE.t w292 rfl, List.forall_mem_cons.mpr ⟨hE.t w233 rfl, List.forall_mem_cons.mpr ⟨hE.t w234 rfl, List.forall_mem_cons.mpr ⟨hE.t w233 rfl, List.forall_mem_cons.mpr ⟨hE.t w232 rfl, List.forall_mem_cons.mpr ⟨hE.t w231 rfl, List.forall_mem_cons.mpr ⟨hE.t w229 rfl, List.forall_mem_cons.mpr ⟨hE.t w230 rfl, List.forall_mem_cons.mpr ⟨hE.t w229 rfl, List.forall_mem_cons.mpr ⟨hE.t w228 rfl, List.forall_mem_cons.mpr ⟨hE.t w227 rfl, List.forall_mem_cons.mpr ⟨hE.t w226 rfl, List.forall_mem_cons.mpr ⟨hE.t w225 rfl, List.forall_mem_cons.mpr ⟨hE.t w291 rfl, List.forall_mem_cons.mpr ⟨hE.t w290 rfl, List.forall_mem_cons.mpr ⟨hE.t w289 rfl, List.forall_mem_cons.mpr ⟨hE.t w288 rfl, List.forall_mem_cons.mpr ⟨hE.t w287 rfl, List.forall_mem_cons.mpr ⟨hE.t w286 rfl, List.forall_mem_cons.mpr ⟨hE.t w285 rfl, List.forall_mem_cons.mpr ⟨hE.t w284 rfl, List.forall_mem_cons.mpr ⟨hE.t w283 rfl, List.forall_mem_cons.mpr ⟨ho_2 hE.2.2.2.1, List.forall_mem_cons.mpr ⟨ho_2 hE.2.2.2.2.1, List.forall_mem_cons.mpr ⟨hE.t w215 rfl, List.forall_mem_cons.mpr ⟨hE.t w214 rfl, List.forall_mem_cons.mpr ⟨hE.t w282 rfl, fun _ h => absurd h List.not_mem_nil⟩⟩⟩⟩⟩⟩⟩⟩⟩⟩⟩⟩⟩⟩⟩⟩⟩⟩⟩⟩⟩⟩⟩⟩⟩⟩⟩⟩⟩⟩⟩⟩⟩⟩⟩⟩⟩⟩⟩⟩⟩⟩⟩⟩⟩⟩⟩⟩⟩⟩⟩⟩⟩
set_option maxHeartbeats 4000000 in
set_option maxRecDepth 100000 in
theorem c_V_start_x (l : Launch) (htr : l.stackTraces = false) (D : va_G) (dA : Nat → ClassId) (sz : Nat) (a : Nat) (fs : List Value) (h_fs_powered : fs[5]? = some (.int 1)) (hl_fs : fs.length = 18) : mX l ⟨"SeriesVault", "start", "()I"⟩ [Cond.code ⟨"SeriesVault", "start", "()I"⟩ prog_1_method_18_code 2 (some FieldType.int)] { frames := 6, cells := 1, slots := 6, locals := 81 } (pC D dA [.ref a] [(a, .inr (0, fs))] sz) "java/lang/IllegalStateException" (fun st9 t9 => va_F (va_A [(a, .inr (0, fs))] sz) st9 t9 ∧ bW D (va_A [(a, .inr (0, fs))] sz) [(a, .inr (0, fs))] t9) 1 6 (va_A [(a, .inr (0, fs))] sz) := by
  refine mkX (B := fun A => fun st9 t9 => va_F A st9 t9 ∧ bW D A [(a, .inr (0, fs))] t9) (by decide) (Nat.le_of_ble_eq_true rfl) ?_
  intro A p e s m below meth c ls hsz hno hB
  obtain ⟨hx, hb, hr, hml, hown, hin, hlk, hE, hK, hP, hD, hS, hA, hN, hl⟩ := hB
  have hown : s.vm.findClass "SeriesVault" = some m.cls := hown
  have hin : meth.name = "start" := hin
  have hl : lv_has ls 2 [(0, .ref a)] := hl
  obtain ⟨H, hH⟩ : ∃ z, z = s.heap := ⟨_, rfl⟩
  have hP : va_P D vwCl [(a, .inr (0, fs))] H := by rw [hH]; exact hP
  have hS : va_S A s.heap H [] := by rw [hH]; exact hS
  rw [← hH]
  refine lv_aload_n hx hb d_V_start_0 rfl (lv_at hl 0 rfl) ?_
  refine gF (v := .int 1) hx hb hown hE hK hP 0 rfl rfl layV 5 (by decide) w275 h_fs_powered d_V_start_1 ?_
  refine lv_if_eq hx hb d_V_start_4 (tgt := 15) rfl (fun h9 => absurd h9 (by decide)) (fun _ => ?_)
  exact xNew (E := "java/lang/IllegalStateException") (names := ["java/lang/RuntimeException", "java/lang/Exception"]) hx hb htr hown (by decide) (by decide) hE w295 w296 (fun U hU => at_V_ISE hU) (hN _ _ hS) (hl.1.trans hml.symm) d_V_start_7 d_V_start_10 d_V_start_11 d_V_start_14 hno (by decide) (Nat.le_of_ble_eq_true rfl) (Nat.le_of_ble_eq_true rfl) (Nat.le_of_ble_eq_true rfl) hlk (fun t h1 h2 => xEnd hP hD hS [0] rfl rfl (by decide) t h1 h2) hS.2.2 (Nat.le_of_ble_eq_true rfl) (Nat.le_of_ble_eq_true rfl)
end
