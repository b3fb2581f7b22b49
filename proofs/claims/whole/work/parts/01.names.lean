-- ===== PART A: goes FIRST, ahead of the names: the tables' words, and 'selects' of the private methods out of them =====
/-- a private method of a class that the tables say can be made, by its rows of tables_1 -/
def lw_okq (q : MethodName × Nat) : Prop := (q.1.cls ≠ "java/lang/invoke/MethodHandle" ∧ q.1.cls ≠ "java/lang/invoke/VarHandle") ∧ Cond.instantiable q.1.cls q.2 ∈ tables_1 ∧ Cond.privateMethod q.1 ∈ tables_1 ∧ Cond.instanceMethod q.1 ∈ tables_1
theorem lw_p0 : lw_okq (⟨"BookBoards$Plan", "priceFrom", "(I)V"⟩, 16) := ⟨⟨by decide +kernel, by decide +kernel⟩, List.mem_of_getElem? (i := 139) (by decide +kernel), List.mem_of_getElem? (i := 417) (by decide +kernel), List.mem_of_getElem? (i := 418) (by decide +kernel)⟩
theorem lw_p1 : lw_okq (⟨"BookBoards$Plan", "endsLine", "(I)Z"⟩, 16) := ⟨⟨by decide +kernel, by decide +kernel⟩, List.mem_of_getElem? (i := 139) (by decide +kernel), List.mem_of_getElem? (i := 428) (by decide +kernel), List.mem_of_getElem? (i := 429) (by decide +kernel)⟩
theorem lw_p2 : lw_okq (⟨"BookBoards$Plan", "fillFrom", "(I)V"⟩, 16) := ⟨⟨by decide +kernel, by decide +kernel⟩, List.mem_of_getElem? (i := 139) (by decide +kernel), List.mem_of_getElem? (i := 623) (by decide +kernel), List.mem_of_getElem? (i := 624) (by decide +kernel)⟩
theorem lw_p3 : lw_okq (⟨"BookBoards$Plan", "filledBy", "(II)I"⟩, 16) := ⟨⟨by decide +kernel, by decide +kernel⟩, List.mem_of_getElem? (i := 139) (by decide +kernel), List.mem_of_getElem? (i := 627) (by decide +kernel), List.mem_of_getElem? (i := 628) (by decide +kernel)⟩
theorem lw_p4 : lw_okq (⟨"BookBoards", "chooseFew", "(I)I"⟩, 15) := ⟨⟨by decide +kernel, by decide +kernel⟩, List.mem_of_getElem? (i := 21) (by decide +kernel), List.mem_of_getElem? (i := 635) (by decide +kernel), List.mem_of_getElem? (i := 636) (by decide +kernel)⟩
theorem lw_p5 : lw_okq (⟨"BookBoards", "usePick", "(II)V"⟩, 15) := ⟨⟨by decide +kernel, by decide +kernel⟩, List.mem_of_getElem? (i := 21) (by decide +kernel), List.mem_of_getElem? (i := 647) (by decide +kernel), List.mem_of_getElem? (i := 648) (by decide +kernel)⟩
theorem lw_p6 : lw_okq (⟨"BookBoards", "nextPick", "(II)Z"⟩, 15) := ⟨⟨by decide +kernel, by decide +kernel⟩, List.mem_of_getElem? (i := 21) (by decide +kernel), List.mem_of_getElem? (i := 653) (by decide +kernel), List.mem_of_getElem? (i := 654) (by decide +kernel)⟩
theorem lw_p7 : lw_okq (⟨"BookBoards", "pricesApart", "(I)I"⟩, 15) := ⟨⟨by decide +kernel, by decide +kernel⟩, List.mem_of_getElem? (i := 21) (by decide +kernel), List.mem_of_getElem? (i := 661) (by decide +kernel), List.mem_of_getElem? (i := 662) (by decide +kernel)⟩
theorem lw_p8 : lw_okq (⟨"BookBoards$Tape", "sortAt", "(I)I"⟩, 5) := ⟨⟨by decide +kernel, by decide +kernel⟩, List.mem_of_getElem? (i := 226) (by decide +kernel), List.mem_of_getElem? (i := 709) (by decide +kernel), List.mem_of_getElem? (i := 710) (by decide +kernel)⟩
theorem lw_p9 : lw_okq (⟨"BookBoards$Reader", "keyHere", "()I"⟩, 5) := ⟨⟨by decide +kernel, by decide +kernel⟩, List.mem_of_getElem? (i := 220) (by decide +kernel), List.mem_of_getElem? (i := 714) (by decide +kernel), List.mem_of_getElem? (i := 715) (by decide +kernel)⟩
theorem lw_p10 : lw_okq (⟨"BookBoards$Reader", "reads", "(III)Z"⟩, 5) := ⟨⟨by decide +kernel, by decide +kernel⟩, List.mem_of_getElem? (i := 220) (by decide +kernel), List.mem_of_getElem? (i := 774) (by decide +kernel), List.mem_of_getElem? (i := 775) (by decide +kernel)⟩
theorem lw_p11 : lw_okq (⟨"BookBoards$Reader", "readsPiece", "(II)Z"⟩, 5) := ⟨⟨by decide +kernel, by decide +kernel⟩, List.mem_of_getElem? (i := 220) (by decide +kernel), List.mem_of_getElem? (i := 778) (by decide +kernel), List.mem_of_getElem? (i := 779) (by decide +kernel)⟩
theorem lw_p12 : lw_okq (⟨"BookBoards$Reader", "readsOperand", "(I)Z"⟩, 5) := ⟨⟨by decide +kernel, by decide +kernel⟩, List.mem_of_getElem? (i := 220) (by decide +kernel), List.mem_of_getElem? (i := 786) (by decide +kernel), List.mem_of_getElem? (i := 787) (by decide +kernel)⟩
theorem lw_p13 : lw_okq (⟨"BookBoards$Reader", "put", "(I)V"⟩, 5) := ⟨⟨by decide +kernel, by decide +kernel⟩, List.mem_of_getElem? (i := 220) (by decide +kernel), List.mem_of_getElem? (i := 790) (by decide +kernel), List.mem_of_getElem? (i := 791) (by decide +kernel)⟩
theorem lw_p14 : lw_okq (⟨"BookBoards$Reader", "names", "()Ljava/lang/String;"⟩, 5) := ⟨⟨by decide +kernel, by decide +kernel⟩, List.mem_of_getElem? (i := 220) (by decide +kernel), List.mem_of_getElem? (i := 794) (by decide +kernel), List.mem_of_getElem? (i := 795) (by decide +kernel)⟩
theorem lw_p15 : lw_okq (⟨"BookBoards", "moved", "(I)I"⟩, 15) := ⟨⟨by decide +kernel, by decide +kernel⟩, List.mem_of_getElem? (i := 21) (by decide +kernel), List.mem_of_getElem? (i := 966) (by decide +kernel), List.mem_of_getElem? (i := 967) (by decide +kernel)⟩
def lw_privs_1 : List (MethodName × Nat) := [(⟨"BookBoards$Plan", "priceFrom", "(I)V"⟩, 16), (⟨"BookBoards$Plan", "endsLine", "(I)Z"⟩, 16), (⟨"BookBoards$Plan", "fillFrom", "(I)V"⟩, 16), (⟨"BookBoards$Plan", "filledBy", "(II)I"⟩, 16), (⟨"BookBoards", "chooseFew", "(I)I"⟩, 15), (⟨"BookBoards", "usePick", "(II)V"⟩, 15), (⟨"BookBoards", "nextPick", "(II)Z"⟩, 15), (⟨"BookBoards", "pricesApart", "(I)I"⟩, 15), (⟨"BookBoards$Tape", "sortAt", "(I)I"⟩, 5), (⟨"BookBoards$Reader", "keyHere", "()I"⟩, 5), (⟨"BookBoards$Reader", "reads", "(III)Z"⟩, 5), (⟨"BookBoards$Reader", "readsPiece", "(II)Z"⟩, 5), (⟨"BookBoards$Reader", "readsOperand", "(I)Z"⟩, 5), (⟨"BookBoards$Reader", "put", "(I)V"⟩, 5), (⟨"BookBoards$Reader", "names", "()Ljava/lang/String;"⟩, 5), (⟨"BookBoards", "moved", "(I)I"⟩, 15)]
theorem lw_r1 : ∀ q ∈ lw_privs_1, lw_okq q := List.forall_mem_cons.mpr ⟨lw_p0, List.forall_mem_cons.mpr ⟨lw_p1, List.forall_mem_cons.mpr ⟨lw_p2, List.forall_mem_cons.mpr ⟨lw_p3, List.forall_mem_cons.mpr ⟨lw_p4, List.forall_mem_cons.mpr ⟨lw_p5, List.forall_mem_cons.mpr ⟨lw_p6, List.forall_mem_cons.mpr ⟨lw_p7, List.forall_mem_cons.mpr ⟨lw_p8, List.forall_mem_cons.mpr ⟨lw_p9, List.forall_mem_cons.mpr ⟨lw_p10, List.forall_mem_cons.mpr ⟨lw_p11, List.forall_mem_cons.mpr ⟨lw_p12, List.forall_mem_cons.mpr ⟨lw_p13, List.forall_mem_cons.mpr ⟨lw_p14, List.forall_mem_cons.mpr ⟨lw_p15, fun _ h => absurd h List.not_mem_nil⟩⟩⟩⟩⟩⟩⟩⟩⟩⟩⟩⟩⟩⟩⟩⟩
theorem lw_p16 : lw_okq (⟨"BookBoards", "rightOnes", "(II)I"⟩, 15) := ⟨⟨by decide +kernel, by decide +kernel⟩, List.mem_of_getElem? (i := 21) (by decide +kernel), List.mem_of_getElem? (i := 1049) (by decide +kernel), List.mem_of_getElem? (i := 1050) (by decide +kernel)⟩
theorem lw_p17 : lw_okq (⟨"BookBoardsModel", "comes", "(III)V"⟩, 55) := ⟨⟨by decide +kernel, by decide +kernel⟩, List.mem_of_getElem? (i := 1075) (by decide +kernel), List.mem_of_getElem? (i := 1260) (by decide +kernel), List.mem_of_getElem? (i := 1261) (by decide +kernel)⟩
theorem lw_p18 : lw_okq (⟨"BookBoardsModel", "isBook", "(I)Z"⟩, 55) := ⟨⟨by decide +kernel, by decide +kernel⟩, List.mem_of_getElem? (i := 1075) (by decide +kernel), List.mem_of_getElem? (i := 1268) (by decide +kernel), List.mem_of_getElem? (i := 1269) (by decide +kernel)⟩
theorem lw_p19 : lw_okq (⟨"BookBoardsModel", "book4", "(II)I"⟩, 55) := ⟨⟨by decide +kernel, by decide +kernel⟩, List.mem_of_getElem? (i := 1075) (by decide +kernel), List.mem_of_getElem? (i := 1272) (by decide +kernel), List.mem_of_getElem? (i := 1273) (by decide +kernel)⟩
theorem lw_p20 : lw_okq (⟨"BookBoardsModel", "settles", "()V"⟩, 55) := ⟨⟨by decide +kernel, by decide +kernel⟩, List.mem_of_getElem? (i := 1075) (by decide +kernel), List.mem_of_getElem? (i := 1276) (by decide +kernel), List.mem_of_getElem? (i := 1277) (by decide +kernel)⟩
theorem lw_p21 : lw_okq (⟨"BookBoardsModel", "asks", "()V"⟩, 55) := ⟨⟨by decide +kernel, by decide +kernel⟩, List.mem_of_getElem? (i := 1075) (by decide +kernel), List.mem_of_getElem? (i := 1280) (by decide +kernel), List.mem_of_getElem? (i := 1281) (by decide +kernel)⟩
theorem lw_p22 : lw_okq (⟨"BookBoardsModel", "takesAll", "()V"⟩, 55) := ⟨⟨by decide +kernel, by decide +kernel⟩, List.mem_of_getElem? (i := 1075) (by decide +kernel), List.mem_of_getElem? (i := 1284) (by decide +kernel), List.mem_of_getElem? (i := 1285) (by decide +kernel)⟩
theorem lw_p23 : lw_okq (⟨"BookBoardsModel", "takesBook", "(IIZ)V"⟩, 55) := ⟨⟨by decide +kernel, by decide +kernel⟩, List.mem_of_getElem? (i := 1075) (by decide +kernel), List.mem_of_getElem? (i := 1288) (by decide +kernel), List.mem_of_getElem? (i := 1289) (by decide +kernel)⟩
theorem lw_p24 : lw_okq (⟨"BookBoardsModel", "parts", "()I"⟩, 55) := ⟨⟨by decide +kernel, by decide +kernel⟩, List.mem_of_getElem? (i := 1075) (by decide +kernel), List.mem_of_getElem? (i := 1292) (by decide +kernel), List.mem_of_getElem? (i := 1293) (by decide +kernel)⟩
theorem lw_p25 : lw_okq (⟨"BookBoardsModel", "setOf", "(I)I"⟩, 55) := ⟨⟨by decide +kernel, by decide +kernel⟩, List.mem_of_getElem? (i := 1075) (by decide +kernel), List.mem_of_getElem? (i := 1296) (by decide +kernel), List.mem_of_getElem? (i := 1297) (by decide +kernel)⟩
theorem lw_p26 : lw_okq (⟨"BookBoardsModel", "priceOf", "(II)I"⟩, 55) := ⟨⟨by decide +kernel, by decide +kernel⟩, List.mem_of_getElem? (i := 1075) (by decide +kernel), List.mem_of_getElem? (i := 1300) (by decide +kernel), List.mem_of_getElem? (i := 1301) (by decide +kernel)⟩
theorem lw_p27 : lw_okq (⟨"BookBoardsModel", "counts", "(I)I"⟩, 55) := ⟨⟨by decide +kernel, by decide +kernel⟩, List.mem_of_getElem? (i := 1075) (by decide +kernel), List.mem_of_getElem? (i := 1304) (by decide +kernel), List.mem_of_getElem? (i := 1305) (by decide +kernel)⟩
theorem lw_p28 : lw_okq (⟨"BookBoardsModel", "worksOut", "(I)I"⟩, 55) := ⟨⟨by decide +kernel, by decide +kernel⟩, List.mem_of_getElem? (i := 1075) (by decide +kernel), List.mem_of_getElem? (i := 1308) (by decide +kernel), List.mem_of_getElem? (i := 1309) (by decide +kernel)⟩
theorem lw_p29 : lw_okq (⟨"BookBoardsModel", "tellsLines", "()V"⟩, 55) := ⟨⟨by decide +kernel, by decide +kernel⟩, List.mem_of_getElem? (i := 1075) (by decide +kernel), List.mem_of_getElem? (i := 1318) (by decide +kernel), List.mem_of_getElem? (i := 1319) (by decide +kernel)⟩
theorem lw_p30 : lw_okq (⟨"BookBoardsModel", "draw", "()I"⟩, 55) := ⟨⟨by decide +kernel, by decide +kernel⟩, List.mem_of_getElem? (i := 1075) (by decide +kernel), List.mem_of_getElem? (i := 1331) (by decide +kernel), List.mem_of_getElem? (i := 1332) (by decide +kernel)⟩
theorem lw_p31 : lw_okq (⟨"BookBoardsModel", "isBoard", "(I)Z"⟩, 55) := ⟨⟨by decide +kernel, by decide +kernel⟩, List.mem_of_getElem? (i := 1075) (by decide +kernel), List.mem_of_getElem? (i := 1352) (by decide +kernel), List.mem_of_getElem? (i := 1353) (by decide +kernel)⟩
def lw_privs_2 : List (MethodName × Nat) := [(⟨"BookBoards", "rightOnes", "(II)I"⟩, 15), (⟨"BookBoardsModel", "comes", "(III)V"⟩, 55), (⟨"BookBoardsModel", "isBook", "(I)Z"⟩, 55), (⟨"BookBoardsModel", "book4", "(II)I"⟩, 55), (⟨"BookBoardsModel", "settles", "()V"⟩, 55), (⟨"BookBoardsModel", "asks", "()V"⟩, 55), (⟨"BookBoardsModel", "takesAll", "()V"⟩, 55), (⟨"BookBoardsModel", "takesBook", "(IIZ)V"⟩, 55), (⟨"BookBoardsModel", "parts", "()I"⟩, 55), (⟨"BookBoardsModel", "setOf", "(I)I"⟩, 55), (⟨"BookBoardsModel", "priceOf", "(II)I"⟩, 55), (⟨"BookBoardsModel", "counts", "(I)I"⟩, 55), (⟨"BookBoardsModel", "worksOut", "(I)I"⟩, 55), (⟨"BookBoardsModel", "tellsLines", "()V"⟩, 55), (⟨"BookBoardsModel", "draw", "()I"⟩, 55), (⟨"BookBoardsModel", "isBoard", "(I)Z"⟩, 55)]
theorem lw_r2 : ∀ q ∈ lw_privs_2, lw_okq q := List.forall_mem_cons.mpr ⟨lw_p16, List.forall_mem_cons.mpr ⟨lw_p17, List.forall_mem_cons.mpr ⟨lw_p18, List.forall_mem_cons.mpr ⟨lw_p19, List.forall_mem_cons.mpr ⟨lw_p20, List.forall_mem_cons.mpr ⟨lw_p21, List.forall_mem_cons.mpr ⟨lw_p22, List.forall_mem_cons.mpr ⟨lw_p23, List.forall_mem_cons.mpr ⟨lw_p24, List.forall_mem_cons.mpr ⟨lw_p25, List.forall_mem_cons.mpr ⟨lw_p26, List.forall_mem_cons.mpr ⟨lw_p27, List.forall_mem_cons.mpr ⟨lw_p28, List.forall_mem_cons.mpr ⟨lw_p29, List.forall_mem_cons.mpr ⟨lw_p30, List.forall_mem_cons.mpr ⟨lw_p31, fun _ h => absurd h List.not_mem_nil⟩⟩⟩⟩⟩⟩⟩⟩⟩⟩⟩⟩⟩⟩⟩⟩
theorem lw_p32 : lw_okq (⟨"BookBoardsModel", "wants", "(I)I"⟩, 55) := ⟨⟨by decide +kernel, by decide +kernel⟩, List.mem_of_getElem? (i := 1075) (by decide +kernel), List.mem_of_getElem? (i := 1356) (by decide +kernel), List.mem_of_getElem? (i := 1357) (by decide +kernel)⟩
theorem lw_p33 : lw_okq (⟨"BookBoardsModel", "board4", "(II)I"⟩, 55) := ⟨⟨by decide +kernel, by decide +kernel⟩, List.mem_of_getElem? (i := 1075) (by decide +kernel), List.mem_of_getElem? (i := 1360) (by decide +kernel), List.mem_of_getElem? (i := 1361) (by decide +kernel)⟩
theorem lw_p34 : lw_okq (⟨"BookBoardsModel", "ofBooks", "(II)I"⟩, 55) := ⟨⟨by decide +kernel, by decide +kernel⟩, List.mem_of_getElem? (i := 1075) (by decide +kernel), List.mem_of_getElem? (i := 1364) (by decide +kernel), List.mem_of_getElem? (i := 1365) (by decide +kernel)⟩
theorem lw_p35 : lw_okq (⟨"BookBoardsModel", "takes", "(I)I"⟩, 55) := ⟨⟨by decide +kernel, by decide +kernel⟩, List.mem_of_getElem? (i := 1075) (by decide +kernel), List.mem_of_getElem? (i := 1368) (by decide +kernel), List.mem_of_getElem? (i := 1369) (by decide +kernel)⟩
theorem lw_p36 : lw_okq (⟨"BookBoardsModel", "booksOn", "(I)I"⟩, 55) := ⟨⟨by decide +kernel, by decide +kernel⟩, List.mem_of_getElem? (i := 1075) (by decide +kernel), List.mem_of_getElem? (i := 1372) (by decide +kernel), List.mem_of_getElem? (i := 1373) (by decide +kernel)⟩
theorem lw_p37 : lw_okq (⟨"BookBoardsModel", "isGood", "(I)Z"⟩, 55) := ⟨⟨by decide +kernel, by decide +kernel⟩, List.mem_of_getElem? (i := 1075) (by decide +kernel), List.mem_of_getElem? (i := 1379) (by decide +kernel), List.mem_of_getElem? (i := 1380) (by decide +kernel)⟩
theorem lw_p38 : lw_okq (⟨"BookBoardsModel", "firstBad", "()I"⟩, 55) := ⟨⟨by decide +kernel, by decide +kernel⟩, List.mem_of_getElem? (i := 1075) (by decide +kernel), List.mem_of_getElem? (i := 1403) (by decide +kernel), List.mem_of_getElem? (i := 1404) (by decide +kernel)⟩
theorem lw_p39 : lw_okq (⟨"BookBoardsModel", "firstLoose", "()I"⟩, 55) := ⟨⟨by decide +kernel, by decide +kernel⟩, List.mem_of_getElem? (i := 1075) (by decide +kernel), List.mem_of_getElem? (i := 1407) (by decide +kernel), List.mem_of_getElem? (i := 1408) (by decide +kernel)⟩
theorem lw_p40 : lw_okq (⟨"BookBoardsModel", "thickOf", "(I)I"⟩, 55) := ⟨⟨by decide +kernel, by decide +kernel⟩, List.mem_of_getElem? (i := 1075) (by decide +kernel), List.mem_of_getElem? (i := 1419) (by decide +kernel), List.mem_of_getElem? (i := 1420) (by decide +kernel)⟩
theorem lw_p41 : lw_okq (⟨"BookBoardsModel", "tallOf", "(I)I"⟩, 55) := ⟨⟨by decide +kernel, by decide +kernel⟩, List.mem_of_getElem? (i := 1075) (by decide +kernel), List.mem_of_getElem? (i := 1423) (by decide +kernel), List.mem_of_getElem? (i := 1424) (by decide +kernel)⟩
theorem lw_p42 : lw_okq (⟨"BookBoardsModel", "findCases", "()V"⟩, 55) := ⟨⟨by decide +kernel, by decide +kernel⟩, List.mem_of_getElem? (i := 1075) (by decide +kernel), List.mem_of_getElem? (i := 1440) (by decide +kernel), List.mem_of_getElem? (i := 1441) (by decide +kernel)⟩
theorem lw_p43 : lw_okq (⟨"BookBoardsModel", "findUnlike", "()V"⟩, 55) := ⟨⟨by decide +kernel, by decide +kernel⟩, List.mem_of_getElem? (i := 1075) (by decide +kernel), List.mem_of_getElem? (i := 1448) (by decide +kernel), List.mem_of_getElem? (i := 1449) (by decide +kernel)⟩
theorem lw_p44 : lw_okq (⟨"BookBoardsModel", "tries", "(III)V"⟩, 55) := ⟨⟨by decide +kernel, by decide +kernel⟩, List.mem_of_getElem? (i := 1075) (by decide +kernel), List.mem_of_getElem? (i := 1452) (by decide +kernel), List.mem_of_getElem? (i := 1453) (by decide +kernel)⟩
theorem lw_p45 : lw_okq (⟨"BookBoardsModel", "apartFrom", "(I)I"⟩, 55) := ⟨⟨by decide +kernel, by decide +kernel⟩, List.mem_of_getElem? (i := 1075) (by decide +kernel), List.mem_of_getElem? (i := 1460) (by decide +kernel), List.mem_of_getElem? (i := 1461) (by decide +kernel)⟩
theorem lw_p46 : lw_okq (⟨"BookBoardsModel", "settleSome", "(IZ)I"⟩, 55) := ⟨⟨by decide +kernel, by decide +kernel⟩, List.mem_of_getElem? (i := 1075) (by decide +kernel), List.mem_of_getElem? (i := 1464) (by decide +kernel), List.mem_of_getElem? (i := 1465) (by decide +kernel)⟩
theorem lw_p47 : lw_okq (⟨"BookBoardsModel", "walksFrom", "(I)I"⟩, 55) := ⟨⟨by decide +kernel, by decide +kernel⟩, List.mem_of_getElem? (i := 1075) (by decide +kernel), List.mem_of_getElem? (i := 1468) (by decide +kernel), List.mem_of_getElem? (i := 1469) (by decide +kernel)⟩
def lw_privs_3 : List (MethodName × Nat) := [(⟨"BookBoardsModel", "wants", "(I)I"⟩, 55), (⟨"BookBoardsModel", "board4", "(II)I"⟩, 55), (⟨"BookBoardsModel", "ofBooks", "(II)I"⟩, 55), (⟨"BookBoardsModel", "takes", "(I)I"⟩, 55), (⟨"BookBoardsModel", "booksOn", "(I)I"⟩, 55), (⟨"BookBoardsModel", "isGood", "(I)Z"⟩, 55), (⟨"BookBoardsModel", "firstBad", "()I"⟩, 55), (⟨"BookBoardsModel", "firstLoose", "()I"⟩, 55), (⟨"BookBoardsModel", "thickOf", "(I)I"⟩, 55), (⟨"BookBoardsModel", "tallOf", "(I)I"⟩, 55), (⟨"BookBoardsModel", "findCases", "()V"⟩, 55), (⟨"BookBoardsModel", "findUnlike", "()V"⟩, 55), (⟨"BookBoardsModel", "tries", "(III)V"⟩, 55), (⟨"BookBoardsModel", "apartFrom", "(I)I"⟩, 55), (⟨"BookBoardsModel", "settleSome", "(IZ)I"⟩, 55), (⟨"BookBoardsModel", "walksFrom", "(I)I"⟩, 55)]
theorem lw_r3 : ∀ q ∈ lw_privs_3, lw_okq q := List.forall_mem_cons.mpr ⟨lw_p32, List.forall_mem_cons.mpr ⟨lw_p33, List.forall_mem_cons.mpr ⟨lw_p34, List.forall_mem_cons.mpr ⟨lw_p35, List.forall_mem_cons.mpr ⟨lw_p36, List.forall_mem_cons.mpr ⟨lw_p37, List.forall_mem_cons.mpr ⟨lw_p38, List.forall_mem_cons.mpr ⟨lw_p39, List.forall_mem_cons.mpr ⟨lw_p40, List.forall_mem_cons.mpr ⟨lw_p41, List.forall_mem_cons.mpr ⟨lw_p42, List.forall_mem_cons.mpr ⟨lw_p43, List.forall_mem_cons.mpr ⟨lw_p44, List.forall_mem_cons.mpr ⟨lw_p45, List.forall_mem_cons.mpr ⟨lw_p46, List.forall_mem_cons.mpr ⟨lw_p47, fun _ h => absurd h List.not_mem_nil⟩⟩⟩⟩⟩⟩⟩⟩⟩⟩⟩⟩⟩⟩⟩⟩
theorem lw_p48 : lw_okq (⟨"BookBoardsModel", "go", "()V"⟩, 55) := ⟨⟨by decide +kernel, by decide +kernel⟩, List.mem_of_getElem? (i := 1075) (by decide +kernel), List.mem_of_getElem? (i := 1488) (by decide +kernel), List.mem_of_getElem? (i := 1489) (by decide +kernel)⟩
theorem lw_p49 : lw_okq (⟨"BookBoardsModel", "isLetter", "(I)Z"⟩, 55) := ⟨⟨by decide +kernel, by decide +kernel⟩, List.mem_of_getElem? (i := 1075) (by decide +kernel), List.mem_of_getElem? (i := 1492) (by decide +kernel), List.mem_of_getElem? (i := 1493) (by decide +kernel)⟩
theorem lw_p50 : lw_okq (⟨"BookBoardsModel", "isFigure", "(I)Z"⟩, 55) := ⟨⟨by decide +kernel, by decide +kernel⟩, List.mem_of_getElem? (i := 1075) (by decide +kernel), List.mem_of_getElem? (i := 1496) (by decide +kernel), List.mem_of_getElem? (i := 1497) (by decide +kernel)⟩
theorem lw_p51 : lw_okq (⟨"BookBoardsModel", "takesKey", "()Z"⟩, 55) := ⟨⟨by decide +kernel, by decide +kernel⟩, List.mem_of_getElem? (i := 1075) (by decide +kernel), List.mem_of_getElem? (i := 1500) (by decide +kernel), List.mem_of_getElem? (i := 1501) (by decide +kernel)⟩
theorem lw_p52 : lw_okq (⟨"BookBoardsModel", "takesE", "()Z"⟩, 55) := ⟨⟨by decide +kernel, by decide +kernel⟩, List.mem_of_getElem? (i := 1075) (by decide +kernel), List.mem_of_getElem? (i := 1504) (by decide +kernel), List.mem_of_getElem? (i := 1505) (by decide +kernel)⟩
theorem lw_p53 : lw_okq (⟨"BookBoardsModel", "takesPart", "()Z"⟩, 55) := ⟨⟨by decide +kernel, by decide +kernel⟩, List.mem_of_getElem? (i := 1075) (by decide +kernel), List.mem_of_getElem? (i := 1508) (by decide +kernel), List.mem_of_getElem? (i := 1509) (by decide +kernel)⟩
theorem lw_p54 : lw_okq (⟨"BookBoardsModel", "nameOf", "(I)I"⟩, 55) := ⟨⟨by decide +kernel, by decide +kernel⟩, List.mem_of_getElem? (i := 1075) (by decide +kernel), List.mem_of_getElem? (i := 1512) (by decide +kernel), List.mem_of_getElem? (i := 1513) (by decide +kernel)⟩
theorem lw_p55 : lw_okq (⟨"BookBoardsModel", "settle", "(I)V"⟩, 55) := ⟨⟨by decide +kernel, by decide +kernel⟩, List.mem_of_getElem? (i := 1075) (by decide +kernel), List.mem_of_getElem? (i := 1516) (by decide +kernel), List.mem_of_getElem? (i := 1517) (by decide +kernel)⟩
theorem lw_p56 : lw_okq (⟨"BookBoardsModel", "notsOpen", "()I"⟩, 55) := ⟨⟨by decide +kernel, by decide +kernel⟩, List.mem_of_getElem? (i := 1075) (by decide +kernel), List.mem_of_getElem? (i := 1523) (by decide +kernel), List.mem_of_getElem? (i := 1524) (by decide +kernel)⟩
theorem lw_p57 : lw_okq (⟨"BookBoardsModel", "signHere", "()I"⟩, 55) := ⟨⟨by decide +kernel, by decide +kernel⟩, List.mem_of_getElem? (i := 1075) (by decide +kernel), List.mem_of_getElem? (i := 1527) (by decide +kernel), List.mem_of_getElem? (i := 1528) (by decide +kernel)⟩
theorem lw_p58 : lw_okq (⟨"BookBoardsModel", "beginsYears", "()V"⟩, 55) := ⟨⟨by decide +kernel, by decide +kernel⟩, List.mem_of_getElem? (i := 1075) (by decide +kernel), List.mem_of_getElem? (i := 1543) (by decide +kernel), List.mem_of_getElem? (i := 1544) (by decide +kernel)⟩
theorem lw_p59 : lw_okq (⟨"BookBoardsModel", "growsIn", "(I)V"⟩, 55) := ⟨⟨by decide +kernel, by decide +kernel⟩, List.mem_of_getElem? (i := 1075) (by decide +kernel), List.mem_of_getElem? (i := 1547) (by decide +kernel), List.mem_of_getElem? (i := 1548) (by decide +kernel)⟩
theorem lw_p60 : lw_okq (⟨"BookBoardsModel", "mostFull", "()I"⟩, 55) := ⟨⟨by decide +kernel, by decide +kernel⟩, List.mem_of_getElem? (i := 1075) (by decide +kernel), List.mem_of_getElem? (i := 1551) (by decide +kernel), List.mem_of_getElem? (i := 1552) (by decide +kernel)⟩
theorem lw_p61 : lw_okq (⟨"BookBoardsModel", "rightYears", "(II)I"⟩, 55) := ⟨⟨by decide +kernel, by decide +kernel⟩, List.mem_of_getElem? (i := 1075) (by decide +kernel), List.mem_of_getElem? (i := 1625) (by decide +kernel), List.mem_of_getElem? (i := 1626) (by decide +kernel)⟩
theorem lw_p62 : lw_okq (⟨"BookBoardsModel", "sumOf", "(I)I"⟩, 55) := ⟨⟨by decide +kernel, by decide +kernel⟩, List.mem_of_getElem? (i := 1075) (by decide +kernel), List.mem_of_getElem? (i := 1641) (by decide +kernel), List.mem_of_getElem? (i := 1642) (by decide +kernel)⟩
def lw_privs_4 : List (MethodName × Nat) := [(⟨"BookBoardsModel", "go", "()V"⟩, 55), (⟨"BookBoardsModel", "isLetter", "(I)Z"⟩, 55), (⟨"BookBoardsModel", "isFigure", "(I)Z"⟩, 55), (⟨"BookBoardsModel", "takesKey", "()Z"⟩, 55), (⟨"BookBoardsModel", "takesE", "()Z"⟩, 55), (⟨"BookBoardsModel", "takesPart", "()Z"⟩, 55), (⟨"BookBoardsModel", "nameOf", "(I)I"⟩, 55), (⟨"BookBoardsModel", "settle", "(I)V"⟩, 55), (⟨"BookBoardsModel", "notsOpen", "()I"⟩, 55), (⟨"BookBoardsModel", "signHere", "()I"⟩, 55), (⟨"BookBoardsModel", "beginsYears", "()V"⟩, 55), (⟨"BookBoardsModel", "growsIn", "(I)V"⟩, 55), (⟨"BookBoardsModel", "mostFull", "()I"⟩, 55), (⟨"BookBoardsModel", "rightYears", "(II)I"⟩, 55), (⟨"BookBoardsModel", "sumOf", "(I)I"⟩, 55)]
theorem lw_r4 : ∀ q ∈ lw_privs_4, lw_okq q := List.forall_mem_cons.mpr ⟨lw_p48, List.forall_mem_cons.mpr ⟨lw_p49, List.forall_mem_cons.mpr ⟨lw_p50, List.forall_mem_cons.mpr ⟨lw_p51, List.forall_mem_cons.mpr ⟨lw_p52, List.forall_mem_cons.mpr ⟨lw_p53, List.forall_mem_cons.mpr ⟨lw_p54, List.forall_mem_cons.mpr ⟨lw_p55, List.forall_mem_cons.mpr ⟨lw_p56, List.forall_mem_cons.mpr ⟨lw_p57, List.forall_mem_cons.mpr ⟨lw_p58, List.forall_mem_cons.mpr ⟨lw_p59, List.forall_mem_cons.mpr ⟨lw_p60, List.forall_mem_cons.mpr ⟨lw_p61, List.forall_mem_cons.mpr ⟨lw_p62, fun _ h => absurd h List.not_mem_nil⟩⟩⟩⟩⟩⟩⟩⟩⟩⟩⟩⟩⟩⟩⟩
def lw_privs : List (MethodName × Nat) := lw_privs_1 ++ (lw_privs_2 ++ (lw_privs_3 ++ (lw_privs_4)))
def lw_tbl : List Cond := k2_sels lw_privs ++ tables_1
theorem lw_privs_ok : ∀ q ∈ lw_privs, lw_okq q := by
  show ∀ q ∈ lw_privs_1 ++ (lw_privs_2 ++ (lw_privs_3 ++ (lw_privs_4))), lw_okq q
  exact List.forall_mem_append.mpr ⟨lw_r1, List.forall_mem_append.mpr ⟨lw_r2, List.forall_mem_append.mpr ⟨lw_r3, lw_r4⟩⟩⟩

/-! ===== BEGIN words of one list among another's, by their places ===== -/
theorem goodIn_r {big : List Cond} (ws : List Cond) (ps : List Nat) (hp : ws = ps.filterMap (fun i => big[i]?)) (h : ws.all goodWord = true) : GoodIn big ws := by
  intro w hw
  have h1 := List.all_eq_true.mp h w hw
  rw [hp] at hw
  obtain ⟨i, -, hi⟩ := List.mem_filterMap.mp hw
  have hm : w ∈ big := by first | exact List.mem_of_getElem? hi | exact List.getElem?_mem hi
  exact ⟨hm, good_of_word h1⟩
theorem goodIn_app {big a b : List Cond} (ha : GoodIn big a) (hb : GoodIn big b) : GoodIn big (a ++ b) := fun w h => (List.mem_append.mp h).elim (ha w) (hb w)
theorem goodIn_ca {big a b : List Cond} {c : Cond} (ha : GoodIn big (c :: a)) (hb : GoodIn big b) : GoodIn big (c :: (a ++ b)) := fun w h => (List.mem_cons.mp h).elim (fun e => ha w (List.mem_cons.mpr (Or.inl e))) (fun h => (List.mem_append.mp h).elim (fun h => ha w (List.mem_cons.mpr (Or.inr h))) (hb w))
theorem goodIn_sub {big ws : List Cond} (hm : ∀ w ∈ ws, w ∈ big) (h : ws.all goodWord = true) : GoodIn big ws := fun w hw => ⟨hm w hw, good_of_word (List.all_eq_true.mp h w hw)⟩
/-! ===== END ===== -/

/-! ===== BEGIN printed: names, fields, word lists, decode rows ===== -/
def RX0 : String := "BookBoards$Board"
def TX0 : u_T := fun k => match k with
  | 0 => ("BookBoards$Board", "kind", "I", false)
  | 1 => ("BookBoards$Board", "first", "I", false)
  | 2 => ("BookBoards$Board", "last", "I", false)
  | _ => ("BookBoards$Board", "h", "I", false)
def tyX0 : Nat → FieldType := fun k => match k with
  | 0 => .int
  | 1 => .int
  | 2 => .int
  | _ => .int
abbrev wsX00 : List Cond := u_ws RX0 TX0 4
theorem nmX0 : ∀ a, a < 4 → ∀ b, b < 4 → a ≠ b → (TX0 a).2.1 ≠ (TX0 b).2.1 := by decide +kernel
theorem tyX0_ok : ∀ k, k < 4 → parseFieldDescriptor (TX0 k).2.2.1 = some (tyX0 k) := by decide +kernel
abbrev cX0_init : ByteArray := prog_2_method_1_code
def yX0_init : MethodName := ⟨RX0, "<init>", "()V"⟩
abbrev cX0_become : ByteArray := prog_2_method_2_code
def yX0_become : MethodName := ⟨RX0, "become", "(LBookBoards$Board;)V"⟩
abbrev cX0_wants : ByteArray := prog_2_method_3_code
def yX0_wants : MethodName := ⟨RX0, "wants", "(LBookBoards$Stock;)I"⟩
abbrev cX0_takes : ByteArray := prog_2_method_4_code
def yX0_takes : MethodName := ⟨RX0, "takes", "(LBookBoards$Stock;)I"⟩
abbrev cX0_worth : ByteArray := prog_2_method_5_code
def yX0_worth : MethodName := ⟨RX0, "worth", "()I"⟩
abbrev cX0_isGood : ByteArray := prog_2_method_6_code
def yX0_isGood : MethodName := ⟨RX0, "isGood", "(LBookBoards$Stock;)Z"⟩
def RX1 : String := "BookBoards$Law"
def TX1 : u_T := fun k => match k with
  | 0 => ("BookBoards$Law", "key", "I", true)
  | 1 => ("BookBoards$Law", "operands", "I", true)
  | 2 => ("BookBoards$Law", "steps", "[I", true)
  | _ => ("BookBoards$Law", "stack", "[I", true)
def tyX1 : Nat → FieldType := fun k => match k with
  | 0 => .int
  | 1 => .int
  | 2 => .array .int
  | _ => .array .int
abbrev wsX10 : List Cond := u_ws RX1 TX1 4
theorem nmX1 : ∀ a, a < 4 → ∀ b, b < 4 → a ≠ b → (TX1 a).2.1 ≠ (TX1 b).2.1 := by decide +kernel
theorem tyX1_ok : ∀ k, k < 4 → parseFieldDescriptor (TX1 k).2.2.1 = some (tyX1 k) := by decide +kernel
abbrev cX1_init : ByteArray := prog_3_method_1_code
def yX1_init : MethodName := ⟨RX1, "<init>", "(II[I)V"⟩
abbrev cX1_gives : ByteArray := prog_3_method_2_code
def yX1_gives : MethodName := ⟨RX1, "gives", "(III)I"⟩
abbrev cX1_operand : ByteArray := prog_3_method_3_code
def yX1_operand : MethodName := ⟨RX1, "operand", "(IIII)I"⟩
abbrev cX1_joined : ByteArray := prog_3_method_4_code
def yX1_joined : MethodName := ⟨RX1, "joined", "(III)I"⟩
def RX2 : String := "BookBoards$Plan"
def TX2 : u_T := fun k => match k with
  | 0 => ("BookBoards$Plan", "many", "I", false)
  | 1 => ("BookBoards$Plan", "high", "[I", true)
  | 2 => ("BookBoards$Plan", "thick", "[I", true)
  | 3 => ("BookBoards$Plan", "tied", "[Z", true)
  | 4 => ("BookBoards$Plan", "width", "I", false)
  | 5 => ("BookBoards$Plan", "plank", "I", false)
  | 6 => ("BookBoards$Plan", "caseHeight", "I", false)
  | 7 => ("BookBoards$Plan", "cost", "LBookBoards$Law;", false)
  | 8 => ("BookBoards$Plan", "heights", "[I", true)
  | 9 => ("BookBoards$Plan", "heightsMany", "I", false)
  | 10 => ("BookBoards$Plan", "price", "[I", true)
  | 11 => ("BookBoards$Plan", "least", "[I", true)
  | 12 => ("BookBoards$Plan", "next", "[I", true)
  | 13 => ("BookBoards$Plan", "first", "[I", true)
  | 14 => ("BookBoards$Plan", "lines", "I", false)
  | _ => ("BookBoards$Plan", "filled", "[I", true)
def tyX2 : Nat → FieldType := fun k => match k with
  | 0 => .int
  | 1 => .array .int
  | 2 => .array .int
  | 3 => .array .boolean
  | 4 => .int
  | 5 => .int
  | 6 => .int
  | 7 => .object "BookBoards$Law"
  | 8 => .array .int
  | 9 => .int
  | 10 => .array .int
  | 11 => .array .int
  | 12 => .array .int
  | 13 => .array .int
  | 14 => .int
  | _ => .array .int
abbrev wsX20 : List Cond := u_ws RX2 TX2 16
theorem nmX2 : ∀ a, a < 16 → ∀ b, b < 16 → a ≠ b → (TX2 a).2.1 ≠ (TX2 b).2.1 := by decide +kernel
theorem tyX2_ok : ∀ k, k < 16 → parseFieldDescriptor (TX2 k).2.2.1 = some (tyX2 k) := by decide +kernel
abbrev cX2_init : ByteArray := prog_4_method_1_code
def yX2_init : MethodName := ⟨RX2, "<init>", "()V"⟩
abbrev cX2_load : ByteArray := prog_4_method_2_code
def yX2_load : MethodName := ⟨RX2, "load", "(LBookBoards$Stock;)LBookBoards$Plan;"⟩
abbrev cX2_keepOnly : ByteArray := prog_4_method_3_code
def yX2_keepOnly : MethodName := ⟨RX2, "keepOnly", "(LBookBoards$Stock;IZ)V"⟩
abbrev cX2_insert : ByteArray := prog_4_method_4_code
def yX2_insert : MethodName := ⟨RX2, "insert", "(III)V"⟩
abbrev cX2_settle : ByteArray := prog_4_method_5_code
def yX2_settle : MethodName := ⟨RX2, "settle", "()Z"⟩
abbrev cX2_leastPrices : ByteArray := prog_4_method_6_code
def yX2_leastPrices : MethodName := ⟨RX2, "leastPrices", "()I"⟩
abbrev cX2_priceFrom : ByteArray := prog_4_method_7_code
def yX2_priceFrom : MethodName := ⟨RX2, "priceFrom", "(I)V"⟩
abbrev cX2_endsLine : ByteArray := prog_4_method_8_code
def yX2_endsLine : MethodName := ⟨RX2, "endsLine", "(I)Z"⟩
abbrev cX2_setFor : ByteArray := prog_4_method_9_code
def yX2_setFor : MethodName := ⟨RX2, "setFor", "(I)I"⟩
abbrev cX2_priceOf : ByteArray := prog_4_method_10_code
def yX2_priceOf : MethodName := ⟨RX2, "priceOf", "(II)I"⟩
abbrev cX2_lineOf : ByteArray := prog_4_method_11_code
def yX2_lineOf : MethodName := ⟨RX2, "lineOf", "(I)I"⟩
abbrev cX2_booksOf : ByteArray := prog_4_method_12_code
def yX2_booksOf : MethodName := ⟨RX2, "booksOf", "(I)I"⟩
abbrev cX2_thicknessOf : ByteArray := prog_4_method_13_code
def yX2_thicknessOf : MethodName := ⟨RX2, "thicknessOf", "(I)I"⟩
abbrev cX2_tallOf : ByteArray := prog_4_method_14_code
def yX2_tallOf : MethodName := ⟨RX2, "tallOf", "(I)I"⟩
abbrev cX2_leastFilled : ByteArray := prog_4_method_15_code
def yX2_leastFilled : MethodName := ⟨RX2, "leastFilled", "()I"⟩
abbrev cX2_fillFrom : ByteArray := prog_4_method_16_code
def yX2_fillFrom : MethodName := ⟨RX2, "fillFrom", "(I)V"⟩
abbrev cX2_filledBy : ByteArray := prog_4_method_17_code
def yX2_filledBy : MethodName := ⟨RX2, "filledBy", "(II)I"⟩
def RX3 : String := "BookBoards$Reader"
def TX3 : u_T := fun k => match k with
  | 0 => ("BookBoards$Reader", "tape", "LBookBoards$Tape;", true)
  | 1 => ("BookBoards$Reader", "steps", "[I", true)
  | 2 => ("BookBoards$Reader", "stepsMany", "I", false)
  | 3 => ("BookBoards$Reader", "operands", "I", false)
  | _ => ("BookBoards$Reader", "key", "I", false)
def tyX3 : Nat → FieldType := fun k => match k with
  | 0 => .object "BookBoards$Tape"
  | 1 => .array .int
  | 2 => .int
  | 3 => .int
  | _ => .int
abbrev wsX30 : List Cond := u_ws RX3 TX3 5
theorem nmX3 : ∀ a, a < 5 → ∀ b, b < 5 → a ≠ b → (TX3 a).2.1 ≠ (TX3 b).2.1 := by decide +kernel
theorem tyX3_ok : ∀ k, k < 5 → parseFieldDescriptor (TX3 k).2.2.1 = some (tyX3 k) := by decide +kernel
abbrev cX3_init : ByteArray := prog_5_method_1_code
def yX3_init : MethodName := ⟨RX3, "<init>", "()V"⟩
abbrev cX3_read : ByteArray := prog_5_method_2_code
def yX3_read : MethodName := ⟨RX3, "read", "()LBookBoards$Law;"⟩
abbrev cX3_keyHere : ByteArray := prog_5_method_3_code
def yX3_keyHere : MethodName := ⟨RX3, "keyHere", "()I"⟩
abbrev cX3_names : ByteArray := prog_5_method_4_code
def yX3_names : MethodName := ⟨RX3, "names", "()Ljava/lang/String;"⟩
abbrev cX3_reads : ByteArray := prog_5_method_5_code
def yX3_reads : MethodName := ⟨RX3, "reads", "(III)Z"⟩
abbrev cX3_isJoint : ByteArray := prog_5_method_6_code
def yX3_isJoint : MethodName := ⟨RX3, "isJoint", "(II)Z"⟩
abbrev cX3_readsPiece : ByteArray := prog_5_method_7_code
def yX3_readsPiece : MethodName := ⟨RX3, "readsPiece", "(II)Z"⟩
abbrev cX3_readsOperand : ByteArray := prog_5_method_8_code
def yX3_readsOperand : MethodName := ⟨RX3, "readsOperand", "(I)Z"⟩
abbrev cX3_put : ByteArray := prog_5_method_9_code
def yX3_put : MethodName := ⟨RX3, "put", "(I)V"⟩
def RX4 : String := "BookBoards$Sheet"
def TX4 : u_T := fun k => match k with
  | 0 => ("BookBoards$Sheet", "sort", "I", false)
  | 1 => ("BookBoards$Sheet", "places", "I", false)
  | _ => ("BookBoards$Sheet", "row", "[I", true)
def tyX4 : Nat → FieldType := fun k => match k with
  | 0 => .int
  | 1 => .int
  | _ => .array .int
abbrev wsX40 : List Cond := u_ws RX4 TX4 3
theorem nmX4 : ∀ a, a < 3 → ∀ b, b < 3 → a ≠ b → (TX4 a).2.1 ≠ (TX4 b).2.1 := by decide +kernel
theorem tyX4_ok : ∀ k, k < 3 → parseFieldDescriptor (TX4 k).2.2.1 = some (tyX4 k) := by decide +kernel
abbrev cX4_init : ByteArray := prog_6_method_1_code
def yX4_init : MethodName := ⟨RX4, "<init>", "()V"⟩
abbrev cX4_become : ByteArray := prog_6_method_2_code
def yX4_become : MethodName := ⟨RX4, "become", "(II)V"⟩
abbrev cX4_becomeAs : ByteArray := prog_6_method_3_code
def yX4_becomeAs : MethodName := ⟨RX4, "becomeAs", "(LBookBoards$Sheet;)V"⟩
abbrev cX4_hasPlaces : ByteArray := prog_6_method_4_code
def yX4_hasPlaces : MethodName := ⟨RX4, "hasPlaces", "(II)Z"⟩
abbrev cX4_sizes : ByteArray := prog_6_method_5_code
def yX4_sizes : MethodName := ⟨RX4, "sizes", "()I"⟩
def RX5 : String := "BookBoards$Slot"
def TX5 : u_T := fun k => match k with
  | 0 => ("BookBoards$Slot", "thing", "I", false)
  | 1 => ("BookBoards$Slot", "board", "LBookBoards$Board;", true)
  | 2 => ("BookBoards$Slot", "sheet", "LBookBoards$Sheet;", true)
  | _ => ("BookBoards$Slot", "number", "I", false)
def tyX5 : Nat → FieldType := fun k => match k with
  | 0 => .int
  | 1 => .object "BookBoards$Board"
  | 2 => .object "BookBoards$Sheet"
  | _ => .int
abbrev wsX50 : List Cond := u_ws RX5 TX5 4
theorem nmX5 : ∀ a, a < 4 → ∀ b, b < 4 → a ≠ b → (TX5 a).2.1 ≠ (TX5 b).2.1 := by decide +kernel
theorem tyX5_ok : ∀ k, k < 4 → parseFieldDescriptor (TX5 k).2.2.1 = some (tyX5 k) := by decide +kernel
abbrev cX5_init : ByteArray := prog_7_method_1_code
def yX5_init : MethodName := ⟨RX5, "<init>", "()V"⟩
abbrev cX5_finding : ByteArray := prog_7_method_2_code
def yX5_finding : MethodName := ⟨RX5, "finding", "(I)I"⟩
def RX6 : String := "BookBoards$Stock"
def TX6 : u_T := fun k => match k with
  | 0 => ("BookBoards$Stock", "books", "I", false)
  | 1 => ("BookBoards$Stock", "height", "[I", true)
  | 2 => ("BookBoards$Stock", "thick", "[I", true)
  | 3 => ("BookBoards$Stock", "part", "[I", true)
  | 4 => ("BookBoards$Stock", "tied", "[Z", true)
  | 5 => ("BookBoards$Stock", "width", "I", false)
  | 6 => ("BookBoards$Stock", "plank", "I", false)
  | 7 => ("BookBoards$Stock", "caseHeight", "I", false)
  | 8 => ("BookBoards$Stock", "z", "I", false)
  | 9 => ("BookBoards$Stock", "boardsMany", "I", false)
  | 10 => ("BookBoards$Stock", "boards", "[LBookBoards$Board;", true)
  | 11 => ("BookBoards$Stock", "allowedMany", "I", false)
  | 12 => ("BookBoards$Stock", "allowed", "[I", true)
  | 13 => ("BookBoards$Stock", "textsMany", "I", false)
  | _ => ("BookBoards$Stock", "texts", "[LBookBoards$Law;", true)
def tyX6 : Nat → FieldType := fun k => match k with
  | 0 => .int
  | 1 => .array .int
  | 2 => .array .int
  | 3 => .array .int
  | 4 => .array .boolean
  | 5 => .int
  | 6 => .int
  | 7 => .int
  | 8 => .int
  | 9 => .int
  | 10 => .array (.object "BookBoards$Board")
  | 11 => .int
  | 12 => .array .int
  | 13 => .int
  | _ => .array (.object "BookBoards$Law")
abbrev wsX60 : List Cond := u_ws RX6 TX6 15
theorem nmX6 : ∀ a, a < 15 → ∀ b, b < 15 → a ≠ b → (TX6 a).2.1 ≠ (TX6 b).2.1 := by decide +kernel
theorem tyX6_ok : ∀ k, k < 15 → parseFieldDescriptor (TX6 k).2.2.1 = some (tyX6 k) := by decide +kernel
abbrev cX6_init : ByteArray := prog_8_method_1_code
def yX6_init : MethodName := ⟨RX6, "<init>", "()V"⟩
abbrev cX6_become : ByteArray := prog_8_method_2_code
def yX6_become : MethodName := ⟨RX6, "become", "(LBookBoards$Stock;)V"⟩
abbrev cX6_hasBook : ByteArray := prog_8_method_3_code
def yX6_hasBook : MethodName := ⟨RX6, "hasBook", "(I)Z"⟩
abbrev cX6_addBook : ByteArray := prog_8_method_4_code
def yX6_addBook : MethodName := ⟨RX6, "addBook", "(III)I"⟩
abbrev cX6_draw : ByteArray := prog_8_method_5_code
def yX6_draw : MethodName := ⟨RX6, "draw", "()I"⟩
abbrev cX6_thickness : ByteArray := prog_8_method_6_code
def yX6_thickness : MethodName := ⟨RX6, "thickness", "(II)I"⟩
abbrev cX6_tallest : ByteArray := prog_8_method_7_code
def yX6_tallest : MethodName := ⟨RX6, "tallest", "(II)I"⟩
abbrev cX6_tiedBooks : ByteArray := prog_8_method_8_code
def yX6_tiedBooks : MethodName := ⟨RX6, "tiedBooks", "()I"⟩
abbrev cX6_hasHeight : ByteArray := prog_8_method_9_code
def yX6_hasHeight : MethodName := ⟨RX6, "hasHeight", "(I)Z"⟩
abbrev cX6_unlikeHeights : ByteArray := prog_8_method_10_code
def yX6_unlikeHeights : MethodName := ⟨RX6, "unlikeHeights", "([I)I"⟩
abbrev cX6_walks : ByteArray := prog_8_method_11_code
def yX6_walks : MethodName := ⟨RX6, "walks", "(I)I"⟩
abbrev cX6_hasBoard : ByteArray := prog_8_method_12_code
def yX6_hasBoard : MethodName := ⟨RX6, "hasBoard", "(I)Z"⟩
abbrev cX6_addBoard : ByteArray := prog_8_method_13_code
def yX6_addBoard : MethodName := ⟨RX6, "addBoard", "(IIII)I"⟩
abbrev cX6_dropBoard : ByteArray := prog_8_method_14_code
def yX6_dropBoard : MethodName := ⟨RX6, "dropBoard", "(I)I"⟩
abbrev cX6_firstBoardNotGood : ByteArray := prog_8_method_15_code
def yX6_firstBoardNotGood : MethodName := ⟨RX6, "firstBoardNotGood", "()I"⟩
abbrev cX6_firstBookAmiss : ByteArray := prog_8_method_16_code
def yX6_firstBookAmiss : MethodName := ⟨RX6, "firstBookAmiss", "()I"⟩
abbrev cX6_boardsWith : ByteArray := prog_8_method_17_code
def yX6_boardsWith : MethodName := ⟨RX6, "boardsWith", "(I)I"⟩
abbrev cX6_heightOfBoards : ByteArray := prog_8_method_18_code
def yX6_heightOfBoards : MethodName := ⟨RX6, "heightOfBoards", "()I"⟩
abbrev cX6_isAllowed : ByteArray := prog_8_method_19_code
def yX6_isAllowed : MethodName := ⟨RX6, "isAllowed", "(I)Z"⟩
abbrev cX6_addAllowed : ByteArray := prog_8_method_20_code
def yX6_addAllowed : MethodName := ⟨RX6, "addAllowed", "(I)I"⟩
abbrev cX6_addText : ByteArray := prog_8_method_21_code
def yX6_addText : MethodName := ⟨RX6, "addText", "(LBookBoards$Law;)I"⟩
abbrev cX6_textAt : ByteArray := prog_8_method_22_code
def yX6_textAt : MethodName := ⟨RX6, "textAt", "(I)LBookBoards$Law;"⟩
abbrev cX6_lastTextOf : ByteArray := prog_8_method_23_code
def yX6_lastTextOf : MethodName := ⟨RX6, "lastTextOf", "(I)I"⟩
abbrev cX6_lawOf : ByteArray := prog_8_method_24_code
def yX6_lawOf : MethodName := ⟨RX6, "lawOf", "(I)LBookBoards$Law;"⟩
def RX7 : String := "BookBoards$Tape"
def TX7 : u_T := fun k => match k with
  | 0 => ("BookBoards$Tape", "bytes", "[I", true)
  | 1 => ("BookBoards$Tape", "length", "I", false)
  | 2 => ("BookBoards$Tape", "sort", "I", false)
  | 3 => ("BookBoards$Tape", "start", "I", false)
  | _ => ("BookBoards$Tape", "end", "I", false)
def tyX7 : Nat → FieldType := fun k => match k with
  | 0 => .array .int
  | 1 => .int
  | 2 => .int
  | 3 => .int
  | _ => .int
abbrev wsX70 : List Cond := u_ws RX7 TX7 5
theorem nmX7 : ∀ a, a < 5 → ∀ b, b < 5 → a ≠ b → (TX7 a).2.1 ≠ (TX7 b).2.1 := by decide +kernel
theorem tyX7_ok : ∀ k, k < 5 → parseFieldDescriptor (TX7 k).2.2.1 = some (tyX7 k) := by decide +kernel
abbrev cX7_init : ByteArray := prog_9_method_1_code
def yX7_init : MethodName := ⟨RX7, "<init>", "()V"⟩
abbrev cX7_add : ByteArray := prog_9_method_2_code
def yX7_add : MethodName := ⟨RX7, "add", "(I)V"⟩
abbrev cX7_begin : ByteArray := prog_9_method_3_code
def yX7_begin : MethodName := ⟨RX7, "begin", "()V"⟩
abbrev cX7_advance : ByteArray := prog_9_method_4_code
def yX7_advance : MethodName := ⟨RX7, "advance", "()V"⟩
abbrev cX7_sortAt : ByteArray := prog_9_method_5_code
def yX7_sortAt : MethodName := ⟨RX7, "sortAt", "(I)I"⟩
abbrev cX7_sign : ByteArray := prog_9_method_6_code
def yX7_sign : MethodName := ⟨RX7, "sign", "()I"⟩
abbrev cX7_isWord : ByteArray := prog_9_method_7_code
def yX7_isWord : MethodName := ⟨RX7, "isWord", "(Ljava/lang/String;)Z"⟩
abbrev cX7_nameAmong : ByteArray := prog_9_method_8_code
def yX7_nameAmong : MethodName := ⟨RX7, "nameAmong", "(Ljava/lang/String;)I"⟩
abbrev cX7_number : ByteArray := prog_9_method_9_code
def yX7_number : MethodName := ⟨RX7, "number", "()I"⟩
def RX8 : String := "BookBoards$Years"
def TX8 : u_T := fun k => match k with
  | 0 => ("BookBoards$Years", "lines", "I", false)
  | 1 => ("BookBoards$Years", "thick", "[I", true)
  | 2 => ("BookBoards$Years", "growsAt", "[I", true)
  | _ => ("BookBoards$Years", "grow", "LBookBoards$Law;", false)
def tyX8 : Nat → FieldType := fun k => match k with
  | 0 => .int
  | 1 => .array .int
  | 2 => .array .int
  | _ => .object "BookBoards$Law"
abbrev wsX80 : List Cond := u_ws RX8 TX8 4
theorem nmX8 : ∀ a, a < 4 → ∀ b, b < 4 → a ≠ b → (TX8 a).2.1 ≠ (TX8 b).2.1 := by decide +kernel
theorem tyX8_ok : ∀ k, k < 4 → parseFieldDescriptor (TX8 k).2.2.1 = some (tyX8 k) := by decide +kernel
abbrev cX8_init : ByteArray := prog_10_method_1_code
def yX8_init : MethodName := ⟨RX8, "<init>", "()V"⟩
abbrev cX8_begin : ByteArray := prog_10_method_2_code
def yX8_begin : MethodName := ⟨RX8, "begin", "(LBookBoards$Stock;LBookBoards$Plan;)V"⟩
abbrev cX8_pass : ByteArray := prog_10_method_3_code
def yX8_pass : MethodName := ⟨RX8, "pass", "(I)V"⟩
abbrev cX8_thickest : ByteArray := prog_10_method_4_code
def yX8_thickest : MethodName := ⟨RX8, "thickest", "()I"⟩
abbrev cX8_thickness : ByteArray := prog_10_method_5_code
def yX8_thickness : MethodName := ⟨RX8, "thickness", "()I"⟩
def RX9 : String := "BookBoards"
def TX9 : u_T := fun k => match k with
  | 0 => ("BookBoards", "now", "LBookBoards$Stock;", true)
  | 1 => ("BookBoards", "image", "LBookBoards$Stock;", true)
  | 2 => ("BookBoards", "hasImage", "Z", false)
  | 3 => ("BookBoards", "plan", "LBookBoards$Plan;", true)
  | 4 => ("BookBoards", "years", "LBookBoards$Years;", true)
  | 5 => ("BookBoards", "reader", "LBookBoards$Reader;", true)
  | 6 => ("BookBoards", "tape", "LBookBoards$Tape;", true)
  | 7 => ("BookBoards", "sheets", "[LBookBoards$Sheet;", true)
  | 8 => ("BookBoards", "slots", "[LBookBoards$Slot;", true)
  | 9 => ("BookBoards", "waiting", "[I", true)
  | 10 => ("BookBoards", "waitingMany", "I", false)
  | 11 => ("BookBoards", "unlike", "[I", true)
  | 12 => ("BookBoards", "pick", "[I", true)
  | 13 => ("BookBoards", "chosen", "[I", true)
  | _ => ("BookBoards", "lineBefore", "[I", true)
def tyX9 : Nat → FieldType := fun k => match k with
  | 0 => .object "BookBoards$Stock"
  | 1 => .object "BookBoards$Stock"
  | 2 => .boolean
  | 3 => .object "BookBoards$Plan"
  | 4 => .object "BookBoards$Years"
  | 5 => .object "BookBoards$Reader"
  | 6 => .object "BookBoards$Tape"
  | 7 => .array (.object "BookBoards$Sheet")
  | 8 => .array (.object "BookBoards$Slot")
  | 9 => .array .int
  | 10 => .int
  | 11 => .array .int
  | 12 => .array .int
  | 13 => .array .int
  | _ => .array .int
abbrev wsX90 : List Cond := u_ws RX9 TX9 15
theorem nmX9 : ∀ a, a < 15 → ∀ b, b < 15 → a ≠ b → (TX9 a).2.1 ≠ (TX9 b).2.1 := by decide +kernel
theorem tyX9_ok : ∀ k, k < 15 → parseFieldDescriptor (TX9 k).2.2.1 = some (tyX9 k) := by decide +kernel
abbrev cX9_init : ByteArray := prog_1_method_1_code
def yX9_init : MethodName := ⟨RX9, "<init>", "()V"⟩
abbrev cX9_book : ByteArray := prog_1_method_2_code
def yX9_book : MethodName := ⟨RX9, "book", "(II)I"⟩
abbrev cX9_bookTold : ByteArray := prog_1_method_3_code
def yX9_bookTold : MethodName := ⟨RX9, "bookTold", "(II)I"⟩
abbrev cX9_tie : ByteArray := prog_1_method_4_code
def yX9_tie : MethodName := ⟨RX9, "tie", "(IZ)I"⟩
abbrev cX9_deal : ByteArray := prog_1_method_5_code
def yX9_deal : MethodName := ⟨RX9, "deal", "(I)I"⟩
abbrev cX9_seed : ByteArray := prog_1_method_6_code
def yX9_seed : MethodName := ⟨RX9, "seed", "(I)I"⟩
abbrev cX9_set : ByteArray := prog_1_method_7_code
def yX9_set : MethodName := ⟨RX9, "set", "(II)I"⟩
abbrev cX9_board : ByteArray := prog_1_method_8_code
def yX9_board : MethodName := ⟨RX9, "board", "(III)I"⟩
abbrev cX9_told : ByteArray := prog_1_method_9_code
def yX9_told : MethodName := ⟨RX9, "told", "(II)I"⟩
abbrev cX9_as : ByteArray := prog_1_method_10_code
def yX9_as : MethodName := ⟨RX9, "as", "(II)I"⟩
abbrev cX9_turns : ByteArray := prog_1_method_11_code
def yX9_turns : MethodName := ⟨RX9, "turns", "(II)I"⟩
abbrev cX9_drop : ByteArray := prog_1_method_12_code
def yX9_drop : MethodName := ⟨RX9, "drop", "(I)I"⟩
abbrev cX9_judge : ByteArray := prog_1_method_13_code
def yX9_judge : MethodName := ⟨RX9, "judge", "(I)I"⟩
abbrev cX9_setting : ByteArray := prog_1_method_14_code
def yX9_setting : MethodName := ⟨RX9, "setting", "(I)I"⟩
abbrev cX9_line : ByteArray := prog_1_method_15_code
def yX9_line : MethodName := ⟨RX9, "line", "(II)I"⟩
abbrev cX9_allow : ByteArray := prog_1_method_16_code
def yX9_allow : MethodName := ⟨RX9, "allow", "(I)I"⟩
abbrev cX9_clear : ByteArray := prog_1_method_17_code
def yX9_clear : MethodName := ⟨RX9, "clear", "()I"⟩
abbrev cX9_cases : ByteArray := prog_1_method_18_code
def yX9_cases : MethodName := ⟨RX9, "cases", "(I)I"⟩
abbrev cX9_few : ByteArray := prog_1_method_19_code
def yX9_few : MethodName := ⟨RX9, "few", "(II)I"⟩
abbrev cX9_chooseFew : ByteArray := prog_1_method_20_code
def yX9_chooseFew : MethodName := ⟨RX9, "chooseFew", "(I)I"⟩
abbrev cX9_usePick : ByteArray := prog_1_method_21_code
def yX9_usePick : MethodName := ⟨RX9, "usePick", "(II)V"⟩
abbrev cX9_nextPick : ByteArray := prog_1_method_22_code
def yX9_nextPick : MethodName := ⟨RX9, "nextPick", "(II)Z"⟩
abbrev cX9_apart : ByteArray := prog_1_method_23_code
def yX9_apart : MethodName := ⟨RX9, "apart", "(I)I"⟩
abbrev cX9_pricesApart : ByteArray := prog_1_method_24_code
def yX9_pricesApart : MethodName := ⟨RX9, "pricesApart", "(I)I"⟩
abbrev cX9_edge : ByteArray := prog_1_method_25_code
def yX9_edge : MethodName := ⟨RX9, "edge", "()I"⟩
abbrev cX9_feed : ByteArray := prog_1_method_26_code
def yX9_feed : MethodName := ⟨RX9, "feed", "(III)I"⟩
abbrev cX9_trim : ByteArray := prog_1_method_27_code
def yX9_trim : MethodName := ⟨RX9, "trim", "(I)I"⟩
abbrev cX9_text : ByteArray := prog_1_method_28_code
def yX9_text : MethodName := ⟨RX9, "text", "()I"⟩
abbrev cX9_textTold : ByteArray := prog_1_method_29_code
def yX9_textTold : MethodName := ⟨RX9, "textTold", "(II)I"⟩
abbrev cX9_why : ByteArray := prog_1_method_30_code
def yX9_why : MethodName := ⟨RX9, "why", "(I)I"⟩
abbrev cX9_fullBy : ByteArray := prog_1_method_31_code
def yX9_fullBy : MethodName := ⟨RX9, "fullBy", "()I"⟩
abbrev cX9_most : ByteArray := prog_1_method_32_code
def yX9_most : MethodName := ⟨RX9, "most", "(II)I"⟩
abbrev cX9_wall : ByteArray := prog_1_method_33_code
def yX9_wall : MethodName := ⟨RX9, "wall", "(II)I"⟩
abbrev cX9_inch : ByteArray := prog_1_method_34_code
def yX9_inch : MethodName := ⟨RX9, "inch", "(I)I"⟩
abbrev cX9_shift : ByteArray := prog_1_method_35_code
def yX9_shift : MethodName := ⟨RX9, "shift", "(II)I"⟩
abbrev cX9_moved : ByteArray := prog_1_method_36_code
def yX9_moved : MethodName := ⟨RX9, "moved", "(I)I"⟩
abbrev cX9_sheet : ByteArray := prog_1_method_37_code
def yX9_sheet : MethodName := ⟨RX9, "sheet", "(III)I"⟩
abbrev cX9_mark : ByteArray := prog_1_method_38_code
def yX9_mark : MethodName := ⟨RX9, "mark", "(III)I"⟩
abbrev cX9_pour : ByteArray := prog_1_method_39_code
def yX9_pour : MethodName := ⟨RX9, "pour", "(II)I"⟩
abbrev cX9_copy : ByteArray := prog_1_method_40_code
def yX9_copy : MethodName := ⟨RX9, "copy", "(IIIII)I"⟩
abbrev cX9_lay : ByteArray := prog_1_method_41_code
def yX9_lay : MethodName := ⟨RX9, "lay", "(III)I"⟩
abbrev cX9_ask : ByteArray := prog_1_method_42_code
def yX9_ask : MethodName := ⟨RX9, "ask", "(II)I"⟩
abbrev cX9_item : ByteArray := prog_1_method_43_code
def yX9_item : MethodName := ⟨RX9, "item", "(II)I"⟩
abbrev cX9_rest : ByteArray := prog_1_method_44_code
def yX9_rest : MethodName := ⟨RX9, "rest", "(II)I"⟩
abbrev cX9_tell : ByteArray := prog_1_method_45_code
def yX9_tell : MethodName := ⟨RX9, "tell", "(I)I"⟩
abbrev cX9_check : ByteArray := prog_1_method_46_code
def yX9_check : MethodName := ⟨RX9, "check", "(I)I"⟩
abbrev cX9_rightOnes : ByteArray := prog_1_method_47_code
def yX9_rightOnes : MethodName := ⟨RX9, "rightOnes", "(II)I"⟩
abbrev cX9_keep : ByteArray := prog_1_method_48_code
def yX9_keep : MethodName := ⟨RX9, "keep", "()I"⟩
abbrev cX9_back : ByteArray := prog_1_method_49_code
def yX9_back : MethodName := ⟨RX9, "back", "()I"⟩
abbrev cX9_count : ByteArray := prog_1_method_50_code
def yX9_count : MethodName := ⟨RX9, "count", "(I)I"⟩
abbrev cX9_isWithin : ByteArray := prog_1_method_51_code
def yX9_isWithin : MethodName := ⟨RX9, "isWithin", "(III)Z"⟩
abbrev cX9_held : ByteArray := prog_1_method_52_code
def yX9_held : MethodName := ⟨RX9, "held", "(III)I"⟩
abbrev cX9_isSize : ByteArray := prog_1_method_53_code
def yX9_isSize : MethodName := ⟨RX9, "isSize", "(I)Z"⟩
abbrev cX9_isKind : ByteArray := prog_1_method_54_code
def yX9_isKind : MethodName := ⟨RX9, "isKind", "(I)Z"⟩
abbrev cX9_isSheet : ByteArray := prog_1_method_55_code
def yX9_isSheet : MethodName := ⟨RX9, "isSheet", "(I)Z"⟩
abbrev cX9_isSlot : ByteArray := prog_1_method_56_code
def yX9_isSlot : MethodName := ⟨RX9, "isSlot", "(I)Z"⟩
abbrev cX9_isUnder : ByteArray := prog_1_method_57_code
def yX9_isUnder : MethodName := ⟨RX9, "isUnder", "(II)Z"⟩
def RX10 : String := "BookBoardsModel"
def TX10 : u_T := fun k => match k with
  | 0 => ("BookBoardsModel", "now", "[I", true)
  | 1 => ("BookBoardsModel", "image", "[I", true)
  | 2 => ("BookBoardsModel", "aside", "[I", true)
  | 3 => ("BookBoardsModel", "hasImage", "Z", false)
  | 4 => ("BookBoardsModel", "heights", "[I", true)
  | 5 => ("BookBoardsModel", "thicks", "[I", true)
  | 6 => ("BookBoardsModel", "tied", "[Z", true)
  | 7 => ("BookBoardsModel", "many", "I", false)
  | 8 => ("BookBoardsModel", "wide", "I", false)
  | 9 => ("BookBoardsModel", "may", "[I", true)
  | 10 => ("BookBoardsModel", "mayMany", "I", false)
  | 11 => ("BookBoardsModel", "prices", "[I", true)
  | 12 => ("BookBoardsModel", "priced", "[I", true)
  | 13 => ("BookBoardsModel", "asking", "I", false)
  | 14 => ("BookBoardsModel", "least", "[I", true)
  | 15 => ("BookBoardsModel", "firstLine", "[I", true)
  | 16 => ("BookBoardsModel", "total", "I", false)
  | 17 => ("BookBoardsModel", "lines", "I", false)
  | 18 => ("BookBoardsModel", "starts", "[I", true)
  | 19 => ("BookBoardsModel", "lineOf", "[I", true)
  | 20 => ("BookBoardsModel", "used", "[I", true)
  | 21 => ("BookBoardsModel", "unlike", "[I", true)
  | 22 => ("BookBoardsModel", "unlikeMany", "I", false)
  | 23 => ("BookBoardsModel", "bestFew", "[I", true)
  | 24 => ("BookBoardsModel", "bestPrices", "I", false)
  | 25 => ("BookBoardsModel", "tape", "[I", true)
  | 26 => ("BookBoardsModel", "taped", "I", false)
  | 27 => ("BookBoardsModel", "next", "I", false)
  | 28 => ("BookBoardsModel", "from", "I", false)
  | 29 => ("BookBoardsModel", "token", "I", false)
  | 30 => ("BookBoardsModel", "value", "I", false)
  | 31 => ("BookBoardsModel", "ended", "I", false)
  | 32 => ("BookBoardsModel", "key", "I", false)
  | 33 => ("BookBoardsModel", "keys", "[C", true)
  | 34 => ("BookBoardsModel", "keyAt", "[I", true)
  | 35 => ("BookBoardsModel", "code", "[I", true)
  | 36 => ("BookBoardsModel", "codes", "I", false)
  | 37 => ("BookBoardsModel", "atoms", "I", false)
  | 38 => ("BookBoardsModel", "waits", "[I", true)
  | 39 => ("BookBoardsModel", "held", "I", false)
  | 40 => ("BookBoardsModel", "tested", "[Z", true)
  | 41 => ("BookBoardsModel", "stack", "[I", true)
  | 42 => ("BookBoardsModel", "facts", "[I", true)
  | 43 => ("BookBoardsModel", "full", "[I", true)
  | 44 => ("BookBoardsModel", "were", "[I", true)
  | 45 => ("BookBoardsModel", "sorts", "[I", true)
  | 46 => ("BookBoardsModel", "sizes", "[I", true)
  | 47 => ("BookBoardsModel", "cells", "[I", true)
  | 48 => ("BookBoardsModel", "holds", "[I", true)
  | 49 => ("BookBoardsModel", "holdsA", "[I", true)
  | 50 => ("BookBoardsModel", "holdsB", "[I", true)
  | 51 => ("BookBoardsModel", "heldCells", "[I", true)
  | 52 => ("BookBoardsModel", "moved", "[I", true)
  | 53 => ("BookBoardsModel", "tells", "[I", true)
  | _ => ("BookBoardsModel", "waiting", "I", false)
def tyX10 : Nat → FieldType := fun k => match k with
  | 0 => .array .int
  | 1 => .array .int
  | 2 => .array .int
  | 3 => .boolean
  | 4 => .array .int
  | 5 => .array .int
  | 6 => .array .boolean
  | 7 => .int
  | 8 => .int
  | 9 => .array .int
  | 10 => .int
  | 11 => .array .int
  | 12 => .array .int
  | 13 => .int
  | 14 => .array .int
  | 15 => .array .int
  | 16 => .int
  | 17 => .int
  | 18 => .array .int
  | 19 => .array .int
  | 20 => .array .int
  | 21 => .array .int
  | 22 => .int
  | 23 => .array .int
  | 24 => .int
  | 25 => .array .int
  | 26 => .int
  | 27 => .int
  | 28 => .int
  | 29 => .int
  | 30 => .int
  | 31 => .int
  | 32 => .int
  | 33 => .array .char
  | 34 => .array .int
  | 35 => .array .int
  | 36 => .int
  | 37 => .int
  | 38 => .array .int
  | 39 => .int
  | 40 => .array .boolean
  | 41 => .array .int
  | 42 => .array .int
  | 43 => .array .int
  | 44 => .array .int
  | 45 => .array .int
  | 46 => .array .int
  | 47 => .array .int
  | 48 => .array .int
  | 49 => .array .int
  | 50 => .array .int
  | 51 => .array .int
  | 52 => .array .int
  | 53 => .array .int
  | _ => .int
abbrev wsX100 : List Cond := u_ws RX10 TX10 55
theorem nmX10 : ∀ a, a < 55 → ∀ b, b < 55 → a ≠ b → (TX10 a).2.1 ≠ (TX10 b).2.1 := by decide +kernel
theorem tyX10_ok : ∀ k, k < 55 → parseFieldDescriptor (TX10 k).2.2.1 = some (tyX10 k) := by decide +kernel
abbrev cX10_init : ByteArray := prog_12_method_1_code
def yX10_init : MethodName := ⟨RX10, "<init>", "()V"⟩
abbrev cX10_in : ByteArray := prog_12_method_2_code
def yX10_in : MethodName := ⟨RX10, "in", "(III)Z"⟩
abbrev cX10_within : ByteArray := prog_12_method_3_code
def yX10_within : MethodName := ⟨RX10, "within", "(III)I"⟩
abbrev cX10_copyAll : ByteArray := prog_12_method_4_code
def yX10_copyAll : MethodName := ⟨RX10, "copyAll", "([I[I)V"⟩
abbrev cX10_isBook : ByteArray := prog_12_method_5_code
def yX10_isBook : MethodName := ⟨RX10, "isBook", "(I)Z"⟩
abbrev cX10_isBoard : ByteArray := prog_12_method_6_code
def yX10_isBoard : MethodName := ⟨RX10, "isBoard", "(I)Z"⟩
abbrev cX10_isSize : ByteArray := prog_12_method_7_code
def yX10_isSize : MethodName := ⟨RX10, "isSize", "(I)Z"⟩
abbrev cX10_book4 : ByteArray := prog_12_method_8_code
def yX10_book4 : MethodName := ⟨RX10, "book4", "(II)I"⟩
abbrev cX10_board4 : ByteArray := prog_12_method_9_code
def yX10_board4 : MethodName := ⟨RX10, "board4", "(II)I"⟩
abbrev cX10_comes : ByteArray := prog_12_method_10_code
def yX10_comes : MethodName := ⟨RX10, "comes", "(III)V"⟩
abbrev cX10_book : ByteArray := prog_12_method_11_code
def yX10_book : MethodName := ⟨RX10, "book", "(II)I"⟩
abbrev cX10_bookTold : ByteArray := prog_12_method_12_code
def yX10_bookTold : MethodName := ⟨RX10, "bookTold", "(II)I"⟩
abbrev cX10_tie : ByteArray := prog_12_method_13_code
def yX10_tie : MethodName := ⟨RX10, "tie", "(IZ)I"⟩
abbrev cX10_draw : ByteArray := prog_12_method_14_code
def yX10_draw : MethodName := ⟨RX10, "draw", "()I"⟩
abbrev cX10_deal : ByteArray := prog_12_method_15_code
def yX10_deal : MethodName := ⟨RX10, "deal", "(I)I"⟩
abbrev cX10_seed : ByteArray := prog_12_method_16_code
def yX10_seed : MethodName := ⟨RX10, "seed", "(I)I"⟩
abbrev cX10_set : ByteArray := prog_12_method_17_code
def yX10_set : MethodName := ⟨RX10, "set", "(II)I"⟩
abbrev cX10_board : ByteArray := prog_12_method_18_code
def yX10_board : MethodName := ⟨RX10, "board", "(III)I"⟩
abbrev cX10_ofBooks : ByteArray := prog_12_method_19_code
def yX10_ofBooks : MethodName := ⟨RX10, "ofBooks", "(II)I"⟩
abbrev cX10_wants : ByteArray := prog_12_method_20_code
def yX10_wants : MethodName := ⟨RX10, "wants", "(I)I"⟩
abbrev cX10_takes : ByteArray := prog_12_method_21_code
def yX10_takes : MethodName := ⟨RX10, "takes", "(I)I"⟩
abbrev cX10_worthBy : ByteArray := prog_12_method_22_code
def yX10_worthBy : MethodName := ⟨RX10, "worthBy", "(III)I"⟩
abbrev cX10_booksOn : ByteArray := prog_12_method_23_code
def yX10_booksOn : MethodName := ⟨RX10, "booksOn", "(I)I"⟩
abbrev cX10_isGood : ByteArray := prog_12_method_24_code
def yX10_isGood : MethodName := ⟨RX10, "isGood", "(I)Z"⟩
abbrev cX10_told : ByteArray := prog_12_method_25_code
def yX10_told : MethodName := ⟨RX10, "told", "(II)I"⟩
abbrev cX10_isUnder : ByteArray := prog_12_method_26_code
def yX10_isUnder : MethodName := ⟨RX10, "isUnder", "(II)Z"⟩
abbrev cX10_as : ByteArray := prog_12_method_27_code
def yX10_as : MethodName := ⟨RX10, "as", "(II)I"⟩
abbrev cX10_turns : ByteArray := prog_12_method_28_code
def yX10_turns : MethodName := ⟨RX10, "turns", "(II)I"⟩
abbrev cX10_drop : ByteArray := prog_12_method_29_code
def yX10_drop : MethodName := ⟨RX10, "drop", "(I)I"⟩
abbrev cX10_firstBad : ByteArray := prog_12_method_30_code
def yX10_firstBad : MethodName := ⟨RX10, "firstBad", "()I"⟩
abbrev cX10_firstLoose : ByteArray := prog_12_method_31_code
def yX10_firstLoose : MethodName := ⟨RX10, "firstLoose", "()I"⟩
abbrev cX10_judge : ByteArray := prog_12_method_32_code
def yX10_judge : MethodName := ⟨RX10, "judge", "(I)I"⟩
abbrev cX10_asks : ByteArray := prog_12_method_33_code
def yX10_asks : MethodName := ⟨RX10, "asks", "()V"⟩
abbrev cX10_priceOf : ByteArray := prog_12_method_34_code
def yX10_priceOf : MethodName := ⟨RX10, "priceOf", "(II)I"⟩
abbrev cX10_setOf : ByteArray := prog_12_method_35_code
def yX10_setOf : MethodName := ⟨RX10, "setOf", "(I)I"⟩
abbrev cX10_takesBook : ByteArray := prog_12_method_36_code
def yX10_takesBook : MethodName := ⟨RX10, "takesBook", "(IIZ)V"⟩
abbrev cX10_takesAll : ByteArray := prog_12_method_37_code
def yX10_takesAll : MethodName := ⟨RX10, "takesAll", "()V"⟩
abbrev cX10_parts : ByteArray := prog_12_method_38_code
def yX10_parts : MethodName := ⟨RX10, "parts", "()I"⟩
abbrev cX10_tellsLines : ByteArray := prog_12_method_39_code
def yX10_tellsLines : MethodName := ⟨RX10, "tellsLines", "()V"⟩
abbrev cX10_settles : ByteArray := prog_12_method_40_code
def yX10_settles : MethodName := ⟨RX10, "settles", "()V"⟩
abbrev cX10_setting : ByteArray := prog_12_method_41_code
def yX10_setting : MethodName := ⟨RX10, "setting", "(I)I"⟩
abbrev cX10_thickOf : ByteArray := prog_12_method_42_code
def yX10_thickOf : MethodName := ⟨RX10, "thickOf", "(I)I"⟩
abbrev cX10_tallOf : ByteArray := prog_12_method_43_code
def yX10_tallOf : MethodName := ⟨RX10, "tallOf", "(I)I"⟩
abbrev cX10_line : ByteArray := prog_12_method_44_code
def yX10_line : MethodName := ⟨RX10, "line", "(II)I"⟩
abbrev cX10_allow : ByteArray := prog_12_method_45_code
def yX10_allow : MethodName := ⟨RX10, "allow", "(I)I"⟩
abbrev cX10_clear : ByteArray := prog_12_method_46_code
def yX10_clear : MethodName := ⟨RX10, "clear", "()I"⟩
abbrev cX10_findCases : ByteArray := prog_12_method_47_code
def yX10_findCases : MethodName := ⟨RX10, "findCases", "()V"⟩
abbrev cX10_cases : ByteArray := prog_12_method_48_code
def yX10_cases : MethodName := ⟨RX10, "cases", "(I)I"⟩
abbrev cX10_findUnlike : ByteArray := prog_12_method_49_code
def yX10_findUnlike : MethodName := ⟨RX10, "findUnlike", "()V"⟩
abbrev cX10_tries : ByteArray := prog_12_method_50_code
def yX10_tries : MethodName := ⟨RX10, "tries", "(III)V"⟩
abbrev cX10_few : ByteArray := prog_12_method_51_code
def yX10_few : MethodName := ⟨RX10, "few", "(II)I"⟩
abbrev cX10_settleSome : ByteArray := prog_12_method_52_code
def yX10_settleSome : MethodName := ⟨RX10, "settleSome", "(IZ)I"⟩
abbrev cX10_walksFrom : ByteArray := prog_12_method_53_code
def yX10_walksFrom : MethodName := ⟨RX10, "walksFrom", "(I)I"⟩
abbrev cX10_apartFrom : ByteArray := prog_12_method_54_code
def yX10_apartFrom : MethodName := ⟨RX10, "apartFrom", "(I)I"⟩
abbrev cX10_apart : ByteArray := prog_12_method_55_code
def yX10_apart : MethodName := ⟨RX10, "apart", "(I)I"⟩
abbrev cX10_edge : ByteArray := prog_12_method_56_code
def yX10_edge : MethodName := ⟨RX10, "edge", "()I"⟩
abbrev cX10_feed : ByteArray := prog_12_method_57_code
def yX10_feed : MethodName := ⟨RX10, "feed", "(III)I"⟩
abbrev cX10_trim : ByteArray := prog_12_method_58_code
def yX10_trim : MethodName := ⟨RX10, "trim", "(I)I"⟩
abbrev cX10_isLetter : ByteArray := prog_12_method_59_code
def yX10_isLetter : MethodName := ⟨RX10, "isLetter", "(I)Z"⟩
abbrev cX10_isFigure : ByteArray := prog_12_method_60_code
def yX10_isFigure : MethodName := ⟨RX10, "isFigure", "(I)Z"⟩
abbrev cX10_go : ByteArray := prog_12_method_61_code
def yX10_go : MethodName := ⟨RX10, "go", "()V"⟩
abbrev cX10_takesKey : ByteArray := prog_12_method_62_code
def yX10_takesKey : MethodName := ⟨RX10, "takesKey", "()Z"⟩
abbrev cX10_nameOf : ByteArray := prog_12_method_63_code
def yX10_nameOf : MethodName := ⟨RX10, "nameOf", "(I)I"⟩
abbrev cX10_rank : ByteArray := prog_12_method_64_code
def yX10_rank : MethodName := ⟨RX10, "rank", "(I)I"⟩
abbrev cX10_settle : ByteArray := prog_12_method_65_code
def yX10_settle : MethodName := ⟨RX10, "settle", "(I)V"⟩
abbrev cX10_signHere : ByteArray := prog_12_method_66_code
def yX10_signHere : MethodName := ⟨RX10, "signHere", "()I"⟩
abbrev cX10_takesPart : ByteArray := prog_12_method_67_code
def yX10_takesPart : MethodName := ⟨RX10, "takesPart", "()Z"⟩
abbrev cX10_takesE : ByteArray := prog_12_method_68_code
def yX10_takesE : MethodName := ⟨RX10, "takesE", "()Z"⟩
abbrev cX10_notsOpen : ByteArray := prog_12_method_69_code
def yX10_notsOpen : MethodName := ⟨RX10, "notsOpen", "()I"⟩
abbrev cX10_text : ByteArray := prog_12_method_70_code
def yX10_text : MethodName := ⟨RX10, "text", "()I"⟩
abbrev cX10_textTold : ByteArray := prog_12_method_71_code
def yX10_textTold : MethodName := ⟨RX10, "textTold", "(II)I"⟩
abbrev cX10_counts : ByteArray := prog_12_method_72_code
def yX10_counts : MethodName := ⟨RX10, "counts", "(I)I"⟩
abbrev cX10_why : ByteArray := prog_12_method_73_code
def yX10_why : MethodName := ⟨RX10, "why", "(I)I"⟩
abbrev cX10_two : ByteArray := prog_12_method_74_code
def yX10_two : MethodName := ⟨RX10, "two", "(III)I"⟩
abbrev cX10_worksOut : ByteArray := prog_12_method_75_code
def yX10_worksOut : MethodName := ⟨RX10, "worksOut", "(I)I"⟩
abbrev cX10_beginsYears : ByteArray := prog_12_method_76_code
def yX10_beginsYears : MethodName := ⟨RX10, "beginsYears", "()V"⟩
abbrev cX10_growsIn : ByteArray := prog_12_method_77_code
def yX10_growsIn : MethodName := ⟨RX10, "growsIn", "(I)V"⟩
abbrev cX10_mostFull : ByteArray := prog_12_method_78_code
def yX10_mostFull : MethodName := ⟨RX10, "mostFull", "()I"⟩
abbrev cX10_fullBy : ByteArray := prog_12_method_79_code
def yX10_fullBy : MethodName := ⟨RX10, "fullBy", "()I"⟩
abbrev cX10_most : ByteArray := prog_12_method_80_code
def yX10_most : MethodName := ⟨RX10, "most", "(II)I"⟩
abbrev cX10_wall : ByteArray := prog_12_method_81_code
def yX10_wall : MethodName := ⟨RX10, "wall", "(II)I"⟩
abbrev cX10_inch : ByteArray := prog_12_method_82_code
def yX10_inch : MethodName := ⟨RX10, "inch", "(I)I"⟩
abbrev cX10_shift : ByteArray := prog_12_method_83_code
def yX10_shift : MethodName := ⟨RX10, "shift", "(II)I"⟩
abbrev cX10_isSheet : ByteArray := prog_12_method_84_code
def yX10_isSheet : MethodName := ⟨RX10, "isSheet", "(I)Z"⟩
abbrev cX10_isSlot : ByteArray := prog_12_method_85_code
def yX10_isSlot : MethodName := ⟨RX10, "isSlot", "(I)Z"⟩
abbrev cX10_sheet : ByteArray := prog_12_method_86_code
def yX10_sheet : MethodName := ⟨RX10, "sheet", "(III)I"⟩
abbrev cX10_mark : ByteArray := prog_12_method_87_code
def yX10_mark : MethodName := ⟨RX10, "mark", "(III)I"⟩
abbrev cX10_pour : ByteArray := prog_12_method_88_code
def yX10_pour : MethodName := ⟨RX10, "pour", "(II)I"⟩
abbrev cX10_copy : ByteArray := prog_12_method_89_code
def yX10_copy : MethodName := ⟨RX10, "copy", "(IIIII)I"⟩
abbrev cX10_lay : ByteArray := prog_12_method_90_code
def yX10_lay : MethodName := ⟨RX10, "lay", "(III)I"⟩
abbrev cX10_ask : ByteArray := prog_12_method_91_code
def yX10_ask : MethodName := ⟨RX10, "ask", "(II)I"⟩
abbrev cX10_item : ByteArray := prog_12_method_92_code
def yX10_item : MethodName := ⟨RX10, "item", "(II)I"⟩
abbrev cX10_rest : ByteArray := prog_12_method_93_code
def yX10_rest : MethodName := ⟨RX10, "rest", "(II)I"⟩
abbrev cX10_tell : ByteArray := prog_12_method_94_code
def yX10_tell : MethodName := ⟨RX10, "tell", "(I)I"⟩
abbrev cX10_rightYears : ByteArray := prog_12_method_95_code
def yX10_rightYears : MethodName := ⟨RX10, "rightYears", "(II)I"⟩
abbrev cX10_check : ByteArray := prog_12_method_96_code
def yX10_check : MethodName := ⟨RX10, "check", "(I)I"⟩
abbrev cX10_keep : ByteArray := prog_12_method_97_code
def yX10_keep : MethodName := ⟨RX10, "keep", "()I"⟩
abbrev cX10_back : ByteArray := prog_12_method_98_code
def yX10_back : MethodName := ⟨RX10, "back", "()I"⟩
abbrev cX10_sumOf : ByteArray := prog_12_method_99_code
def yX10_sumOf : MethodName := ⟨RX10, "sumOf", "(I)I"⟩
abbrev cX10_count : ByteArray := prog_12_method_100_code
def yX10_count : MethodName := ⟨RX10, "count", "(I)I"⟩
def RJx145de : String := "java/io/Serializable"
def TJx145de : u_T := fun k => match k with
  | _ => ("", "", "", false)
def tyJx145de : Nat → FieldType := fun k => match k with
  | _ => .int
abbrev wsJx145de0 : List Cond := u_ws RJx145de TJx145de 0
theorem nmJx145de : ∀ a, a < 0 → ∀ b, b < 0 → a ≠ b → (TJx145de a).2.1 ≠ (TJx145de b).2.1 := by decide +kernel
theorem tyJx145de_ok : ∀ k, k < 0 → parseFieldDescriptor (TJx145de k).2.2.1 = some (tyJx145de k) := by decide +kernel
def RJx9f9b0 : String := "java/lang/CharSequence"
def TJx9f9b0 : u_T := fun k => match k with
  | _ => ("", "", "", false)
def tyJx9f9b0 : Nat → FieldType := fun k => match k with
  | _ => .int
abbrev wsJx9f9b00 : List Cond := u_ws RJx9f9b0 TJx9f9b0 0
theorem nmJx9f9b0 : ∀ a, a < 0 → ∀ b, b < 0 → a ≠ b → (TJx9f9b0 a).2.1 ≠ (TJx9f9b0 b).2.1 := by decide +kernel
theorem tyJx9f9b0_ok : ∀ k, k < 0 → parseFieldDescriptor (TJx9f9b0 k).2.2.1 = some (tyJx9f9b0 k) := by decide +kernel
def RJ11 : String := "java/lang/Character"
def TJ11 : u_T := fun k => match k with
  | _ => ("", "", "", false)
def tyJ11 : Nat → FieldType := fun k => match k with
  | _ => .int
abbrev wsJ110 : List Cond := u_ws RJ11 TJ11 0
theorem nmJ11 : ∀ a, a < 0 → ∀ b, b < 0 → a ≠ b → (TJ11 a).2.1 ≠ (TJ11 b).2.1 := by decide +kernel
theorem tyJ11_ok : ∀ k, k < 0 → parseFieldDescriptor (TJ11 k).2.2.1 = some (tyJ11 k) := by decide +kernel
abbrev cJ11_isValidCodePoint_9a6ad : ByteArray := prog_13_method_11_code
def yJ11_isValidCodePoint_9a6ad : MethodName := ⟨RJ11, "isValidCodePoint", "(I)Z"⟩
abbrev cJ11_highSurrogate_5068e : ByteArray := prog_13_method_28_code
def yJ11_highSurrogate_5068e : MethodName := ⟨RJ11, "highSurrogate", "(I)C"⟩
abbrev cJ11_lowSurrogate_5068e : ByteArray := prog_13_method_29_code
def yJ11_lowSurrogate_5068e : MethodName := ⟨RJ11, "lowSurrogate", "(I)C"⟩
def RJx8e188 : String := "java/lang/Cloneable"
def TJx8e188 : u_T := fun k => match k with
  | _ => ("", "", "", false)
def tyJx8e188 : Nat → FieldType := fun k => match k with
  | _ => .int
abbrev wsJx8e1880 : List Cond := u_ws RJx8e188 TJx8e188 0
theorem nmJx8e188 : ∀ a, a < 0 → ∀ b, b < 0 → a ≠ b → (TJx8e188 a).2.1 ≠ (TJx8e188 b).2.1 := by decide +kernel
theorem tyJx8e188_ok : ∀ k, k < 0 → parseFieldDescriptor (TJx8e188 k).2.2.1 = some (tyJx8e188 k) := by decide +kernel
def RJxb160c : String := "java/lang/Comparable"
def TJxb160c : u_T := fun k => match k with
  | _ => ("", "", "", false)
def tyJxb160c : Nat → FieldType := fun k => match k with
  | _ => .int
abbrev wsJxb160c0 : List Cond := u_ws RJxb160c TJxb160c 0
theorem nmJxb160c : ∀ a, a < 0 → ∀ b, b < 0 → a ≠ b → (TJxb160c a).2.1 ≠ (TJxb160c b).2.1 := by decide +kernel
theorem tyJxb160c_ok : ∀ k, k < 0 → parseFieldDescriptor (TJxb160c k).2.2.1 = some (tyJxb160c k) := by decide +kernel
def RJ9 : String := "java/lang/Math"
def TJ9 : u_T := fun k => match k with
  | _ => ("", "", "", false)
def tyJ9 : Nat → FieldType := fun k => match k with
  | _ => .int
abbrev wsJ90 : List Cond := u_ws RJ9 TJ9 0
theorem nmJ9 : ∀ a, a < 0 → ∀ b, b < 0 → a ≠ b → (TJ9 a).2.1 ≠ (TJ9 b).2.1 := by decide +kernel
theorem tyJ9_ok : ∀ k, k < 0 → parseFieldDescriptor (TJ9 k).2.2.1 = some (tyJ9 k) := by decide +kernel
abbrev cJ9_max_7cf53 : ByteArray := prog_15_method_65_code
def yJ9_max_7cf53 : MethodName := ⟨RJ9, "max", "(II)I"⟩
abbrev cJ9_min_7cf53 : ByteArray := prog_15_method_69_code
def yJ9_min_7cf53 : MethodName := ⟨RJ9, "min", "(II)I"⟩
def RJ0 : String := "java/lang/String"
def TJ0 : u_T := fun k => match k with
  | _ => ("", "", "", false)
def tyJ0 : Nat → FieldType := fun k => match k with
  | _ => .int
abbrev wsJ00 : List Cond := u_ws RJ0 TJ0 0
theorem nmJ0 : ∀ a, a < 0 → ∀ b, b < 0 → a ≠ b → (TJ0 a).2.1 ≠ (TJ0 b).2.1 := by decide +kernel
theorem tyJ0_ok : ∀ k, k < 0 → parseFieldDescriptor (TJ0 k).2.2.1 = some (tyJ0 k) := by decide +kernel
abbrev cJ0_length_8abf5 : ByteArray := prog_16_method_54_code
def yJ0_length_8abf5 : MethodName := ⟨RJ0, "length", "()I"⟩
abbrev cJ0_charAt_5068e : ByteArray := prog_16_method_56_code
def yJ0_charAt_5068e : MethodName := ⟨RJ0, "charAt", "(I)C"⟩
abbrev cJ0_indexOf_0f7a4 : ByteArray := prog_16_method_79_code
def yJ0_indexOf_0f7a4 : MethodName := ⟨RJ0, "indexOf", "(I)I"⟩
abbrev cJ0_indexOf_7cf53 : ByteArray := prog_16_method_80_code
def yJ0_indexOf_7cf53 : MethodName := ⟨RJ0, "indexOf", "(II)I"⟩
abbrev cJ0_coder_7d493 : ByteArray := prog_16_method_152_code
def yJ0_coder_7d493 : MethodName := ⟨RJ0, "coder", "()B"⟩
abbrev cJ0_isLatin1_aae02 : ByteArray := prog_16_method_154_code
def yJ0_isLatin1_aae02 : MethodName := ⟨RJ0, "isLatin1", "()Z"⟩
abbrev cJ0_checkIndex_df160 : ByteArray := prog_16_method_155_code
def yJ0_checkIndex_df160 : MethodName := ⟨RJ0, "checkIndex", "(II)V"⟩
abbrev cJ0_checkBoundsBeginEnd_23922 : ByteArray := prog_16_method_158_code
def yJ0_checkBoundsBeginEnd_23922 : MethodName := ⟨RJ0, "checkBoundsBeginEnd", "(III)V"⟩
def RJ1 : String := "java/lang/StringLatin1"
def TJ1 : u_T := fun k => match k with
  | _ => ("", "", "", false)
def tyJ1 : Nat → FieldType := fun k => match k with
  | _ => .int
abbrev wsJ10 : List Cond := u_ws RJ1 TJ1 0
theorem nmJ1 : ∀ a, a < 0 → ∀ b, b < 0 → a ≠ b → (TJ1 a).2.1 ≠ (TJ1 b).2.1 := by decide +kernel
theorem tyJ1_ok : ∀ k, k < 0 → parseFieldDescriptor (TJ1 k).2.2.1 = some (tyJ1 k) := by decide +kernel
abbrev cJ1_charAt_3b067 : ByteArray := prog_17_method_2_code
def yJ1_charAt_3b067 : MethodName := ⟨RJ1, "charAt", "([BI)C"⟩
abbrev cJ1_canEncode_9a6ad : ByteArray := prog_17_method_4_code
def yJ1_canEncode_9a6ad : MethodName := ⟨RJ1, "canEncode", "(I)Z"⟩
abbrev cJ1_indexOf_4cfef : ByteArray := prog_17_method_22_code
def yJ1_indexOf_4cfef : MethodName := ⟨RJ1, "indexOf", "([BIII)I"⟩
abbrev cJ1_indexOfChar_4cfef : ByteArray := prog_17_method_23_code
def yJ1_indexOfChar_4cfef : MethodName := ⟨RJ1, "indexOfChar", "([BIII)I"⟩
def RJ2 : String := "java/lang/StringUTF16"
def TJ2 : u_T := fun k => match k with
  | _ => ("", "", "", false)
def tyJ2 : Nat → FieldType := fun k => match k with
  | _ => .int
abbrev wsJ20 : List Cond := u_ws RJ2 TJ2 0
theorem nmJ2 : ∀ a, a < 0 → ∀ b, b < 0 → a ≠ b → (TJ2 a).2.1 ≠ (TJ2 b).2.1 := by decide +kernel
theorem tyJ2_ok : ∀ k, k < 0 → parseFieldDescriptor (TJ2 k).2.2.1 = some (tyJ2 k) := by decide +kernel
abbrev cJ2_getChar_3b067 : ByteArray := prog_18_method_5_code
def yJ2_getChar_3b067 : MethodName := ⟨RJ2, "getChar", "([BI)C"⟩
abbrev cJ2_length_9d52b : ByteArray := prog_18_method_6_code
def yJ2_length_9d52b : MethodName := ⟨RJ2, "length", "([B)I"⟩
abbrev cJ2_indexOf_4cfef : ByteArray := prog_18_method_40_code
def yJ2_indexOf_4cfef : MethodName := ⟨RJ2, "indexOf", "([BIII)I"⟩
abbrev cJ2_indexOfChar_4cfef : ByteArray := prog_18_method_47_code
def yJ2_indexOfChar_4cfef : MethodName := ⟨RJ2, "indexOfChar", "([BIII)I"⟩
abbrev cJ2_indexOfCharUnsafe_4cfef : ByteArray := prog_18_method_48_code
def yJ2_indexOfCharUnsafe_4cfef : MethodName := ⟨RJ2, "indexOfCharUnsafe", "([BIII)I"⟩
abbrev cJ2_indexOfSupplementary_4cfef : ByteArray := prog_18_method_49_code
def yJ2_indexOfSupplementary_4cfef : MethodName := ⟨RJ2, "indexOfSupplementary", "([BIII)I"⟩
abbrev cJ2_charAt_3b067 : ByteArray := prog_18_method_83_code
def yJ2_charAt_3b067 : MethodName := ⟨RJ2, "charAt", "([BI)C"⟩
abbrev cJ2_checkIndex_2214a : ByteArray := prog_18_method_91_code
def yJ2_checkIndex_2214a : MethodName := ⟨RJ2, "checkIndex", "(I[B)V"⟩
abbrev cJ2_checkBoundsBeginEnd_d044e : ByteArray := prog_18_method_93_code
def yJ2_checkBoundsBeginEnd_d044e : MethodName := ⟨RJ2, "checkBoundsBeginEnd", "(II[B)V"⟩
def RJ10 : String := "java/lang/System"
def TJ10 : u_T := fun k => match k with
  | _ => ("", "", "", false)
def tyJ10 : Nat → FieldType := fun k => match k with
  | _ => .int
abbrev wsJ100 : List Cond := u_ws RJ10 TJ10 0
theorem nmJ10 : ∀ a, a < 0 → ∀ b, b < 0 → a ≠ b → (TJ10 a).2.1 ≠ (TJ10 b).2.1 := by decide +kernel
theorem tyJ10_ok : ∀ k, k < 0 → parseFieldDescriptor (TJ10 k).2.2.1 = some (tyJ10 k) := by decide +kernel
def RJxfd54e : String := "java/lang/constant/Constable"
def TJxfd54e : u_T := fun k => match k with
  | _ => ("", "", "", false)
def tyJxfd54e : Nat → FieldType := fun k => match k with
  | _ => .int
abbrev wsJxfd54e0 : List Cond := u_ws RJxfd54e TJxfd54e 0
theorem nmJxfd54e : ∀ a, a < 0 → ∀ b, b < 0 → a ≠ b → (TJxfd54e a).2.1 ≠ (TJxfd54e b).2.1 := by decide +kernel
theorem tyJxfd54e_ok : ∀ k, k < 0 → parseFieldDescriptor (TJxfd54e k).2.2.1 = some (tyJxfd54e k) := by decide +kernel
def RJx3cf43 : String := "java/lang/constant/ConstantDesc"
def TJx3cf43 : u_T := fun k => match k with
  | _ => ("", "", "", false)
def tyJx3cf43 : Nat → FieldType := fun k => match k with
  | _ => .int
abbrev wsJx3cf430 : List Cond := u_ws RJx3cf43 TJx3cf43 0
theorem nmJx3cf43 : ∀ a, a < 0 → ∀ b, b < 0 → a ≠ b → (TJx3cf43 a).2.1 ≠ (TJx3cf43 b).2.1 := by decide +kernel
theorem tyJx3cf43_ok : ∀ k, k < 0 → parseFieldDescriptor (TJx3cf43 k).2.2.1 = some (tyJx3cf43 k) := by decide +kernel
def RJ7 : String := "java/util/Arrays"
def TJ7 : u_T := fun k => match k with
  | _ => ("", "", "", false)
def tyJ7 : Nat → FieldType := fun k => match k with
  | _ => .int
abbrev wsJ70 : List Cond := u_ws RJ7 TJ7 0
theorem nmJ7 : ∀ a, a < 0 → ∀ b, b < 0 → a ≠ b → (TJ7 a).2.1 ≠ (TJ7 b).2.1 := by decide +kernel
theorem tyJ7_ok : ∀ k, k < 0 → parseFieldDescriptor (TJ7 k).2.2.1 = some (tyJ7 k) := by decide +kernel
abbrev cJ7_fill_53178 : ByteArray := prog_20_method_103_code
def yJ7_fill_53178 : MethodName := ⟨RJ7, "fill", "([II)V"⟩
abbrev cJ7_copyOf_59c91 : ByteArray := prog_20_method_123_code
def yJ7_copyOf_59c91 : MethodName := ⟨RJ7, "copyOf", "([II)[I"⟩
def RJ3 : String := "jdk/internal/util/Preconditions"
def TJ3 : u_T := fun k => match k with
  | _ => ("", "", "", false)
def tyJ3 : Nat → FieldType := fun k => match k with
  | _ => .int
abbrev wsJ30 : List Cond := u_ws RJ3 TJ3 0
theorem nmJ3 : ∀ a, a < 0 → ∀ b, b < 0 → a ≠ b → (TJ3 a).2.1 ≠ (TJ3 b).2.1 := by decide +kernel
theorem tyJ3_ok : ∀ k, k < 0 → parseFieldDescriptor (TJ3 k).2.2.1 = some (tyJ3 k) := by decide +kernel
abbrev cJ3_checkIndex_8e157 : ByteArray := prog_21_method_11_code
def yJ3_checkIndex_8e157 : MethodName := ⟨RJ3, "checkIndex", "(IILjava/util/function/BiFunction;)I"⟩
abbrev cJ3_checkFromToIndex_8c36e : ByteArray := prog_21_method_12_code
def yJ3_checkFromToIndex_8c36e : MethodName := ⟨RJ3, "checkFromToIndex", "(IIILjava/util/function/BiFunction;)I"⟩
def RL : String := "BookBoardsLaw"
abbrev cL_law : ByteArray := code
def yL_law : MethodName := ⟨RL, "law", "([I)Z"⟩
abbrev vwCl : List vw_C := [(RX0, TX0, 4), (RX1, TX1, 4), (RX2, TX2, 16), (RX3, TX3, 5), (RX4, TX4, 3), (RX5, TX5, 4), (RX6, TX6, 15), (RX7, TX7, 5), (RX8, TX8, 4), (RX9, TX9, 15), (RX10, TX10, 55)]
theorem inX0 : ∀ w ∈ wsX00, w ∈ lw_tbl := fun w h => (goodIn_r (big := lw_tbl) wsX00 [118, 120, 122, 124] (by decide +kernel) (by decide +kernel) w h).1
theorem inX1 : ∀ w ∈ wsX10, w ∈ lw_tbl := fun w h => (goodIn_r (big := lw_tbl) wsX10 [955, 957, 959, 961] (by decide +kernel) (by decide +kernel) w h).1
theorem inX2 : ∀ w ∈ wsX20, w ∈ lw_tbl := fun w h => (goodIn_r (big := lw_tbl) wsX20 [230, 232, 234, 236, 238, 240, 242, 244, 246, 248, 250, 252, 254, 256, 258, 260] (by decide +kernel) (by decide +kernel) w h).1
theorem inX3 : ∀ w ∈ wsX30, w ∈ lw_tbl := fun w h => (goodIn_r (big := lw_tbl) wsX30 [319, 321, 323, 325, 327] (by decide +kernel) (by decide +kernel) w h).1
theorem inX4 : ∀ w ∈ wsX40, w ∈ lw_tbl := fun w h => (goodIn_r (big := lw_tbl) wsX40 [344, 346, 348] (by decide +kernel) (by decide +kernel) w h).1
theorem inX5 : ∀ w ∈ wsX50, w ∈ lw_tbl := fun w h => (goodIn_r (big := lw_tbl) wsX50 [367, 369, 371, 373] (by decide +kernel) (by decide +kernel) w h).1
theorem inX6 : ∀ w ∈ wsX60, w ∈ lw_tbl := fun w h => (goodIn_r (big := lw_tbl) wsX60 [170, 172, 174, 176, 178, 180, 182, 184, 186, 188, 190, 192, 194, 196, 198] (by decide +kernel) (by decide +kernel) w h).1
theorem inX7 : ∀ w ∈ wsX70, w ∈ lw_tbl := fun w h => (goodIn_r (big := lw_tbl) wsX70 [302, 304, 306, 308, 310] (by decide +kernel) (by decide +kernel) w h).1
theorem inX8 : ∀ w ∈ wsX80, w ∈ lw_tbl := fun w h => (goodIn_r (big := lw_tbl) wsX80 [273, 275, 277, 279] (by decide +kernel) (by decide +kernel) w h).1
theorem inX9 : ∀ w ∈ wsX90, w ∈ lw_tbl := fun w h => (goodIn_r (big := lw_tbl) wsX90 [391, 393, 395, 397, 399, 401, 403, 405, 407, 409, 411, 413, 415, 417, 419] (by decide +kernel) (by decide +kernel) w h).1
theorem inX10 : ∀ w ∈ wsX100, w ∈ lw_tbl := fun w h => (goodIn_r (big := lw_tbl) wsX100 [1198, 1200, 1202, 1204, 1206, 1208, 1210, 1212, 1214, 1216, 1218, 1220, 1222, 1224, 1226, 1228, 1230, 1232, 1234, 1236, 1238, 1240, 1242, 1244, 1246, 1248, 1250, 1252, 1254, 1256, 1258, 1260, 1262, 1264, 1266, 1268, 1270, 1272, 1274, 1276, 1278, 1280, 1282, 1284, 1286, 1288, 1290, 1292, 1294, 1296, 1298, 1300, 1302, 1304, 1306] (by decide +kernel) (by decide +kernel) w h).1
