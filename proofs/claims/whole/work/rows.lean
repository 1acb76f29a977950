section
-- ===== PART A: goes FIRST, ahead of the names: the tables' words, and 'selects' of the private methods out of them =====
/-- a private method of a class that the tables say can be made, by its rows of tables_1 -/
def lw_okq (q : MethodName × Nat) : Prop := (q.1.cls ≠ "java/lang/invoke/MethodHandle" ∧ q.1.cls ≠ "java/lang/invoke/VarHandle") ∧ Cond.instantiable q.1.cls q.2 ∈ tables_1 ∧ Cond.privateMethod q.1 ∈ tables_1 ∧ Cond.instanceMethod q.1 ∈ tables_1
theorem lw_p0 : lw_okq (⟨"MergeGrid$Table", "settle", "()V"⟩, 9) := ⟨⟨by decide +kernel, by decide +kernel⟩, List.mem_of_getElem? (i := 31) (by decide +kernel), List.mem_of_getElem? (i := 111) (by decide +kernel), List.mem_of_getElem? (i := 112) (by decide +kernel)⟩
theorem lw_p1 : lw_okq (⟨"MergeGrid$Table", "own", "(I)V"⟩, 9) := ⟨⟨by decide +kernel, by decide +kernel⟩, List.mem_of_getElem? (i := 31) (by decide +kernel), List.mem_of_getElem? (i := 115) (by decide +kernel), List.mem_of_getElem? (i := 116) (by decide +kernel)⟩
theorem lw_p2 : lw_okq (⟨"MergeGrid$Table", "setOwner", "(III)V"⟩, 9) := ⟨⟨by decide +kernel, by decide +kernel⟩, List.mem_of_getElem? (i := 31) (by decide +kernel), List.mem_of_getElem? (i := 131) (by decide +kernel), List.mem_of_getElem? (i := 132) (by decide +kernel)⟩
theorem lw_p3 : lw_okq (⟨"MergeGrid$Table", "ownerOf", "(II)I"⟩, 9) := ⟨⟨by decide +kernel, by decide +kernel⟩, List.mem_of_getElem? (i := 31) (by decide +kernel), List.mem_of_getElem? (i := 143) (by decide +kernel), List.mem_of_getElem? (i := 144) (by decide +kernel)⟩
theorem lw_p4 : lw_okq (⟨"MergeGrid$Table", "ownsItsSquares", "(I)Z"⟩, 9) := ⟨⟨by decide +kernel, by decide +kernel⟩, List.mem_of_getElem? (i := 31) (by decide +kernel), List.mem_of_getElem? (i := 346) (by decide +kernel), List.mem_of_getElem? (i := 347) (by decide +kernel)⟩
theorem lw_p5 : lw_okq (⟨"java/lang/Throwable", "fillInStackTrace", "(I)Ljava/lang/Throwable;"⟩, 6) := ⟨⟨by decide +kernel, by decide +kernel⟩, List.mem_of_getElem? (i := 395) (by decide +kernel), List.mem_of_getElem? (i := 393) (by decide +kernel), List.mem_of_getElem? (i := 394) (by decide +kernel)⟩
theorem lw_p6 : lw_okq (⟨"MergeGrid", "remember", "()V"⟩, 6) := ⟨⟨by decide +kernel, by decide +kernel⟩, List.mem_of_getElem? (i := 23) (by decide +kernel), List.mem_of_getElem? (i := 475) (by decide +kernel), List.mem_of_getElem? (i := 476) (by decide +kernel)⟩
theorem lw_p7 : lw_okq (⟨"MergeGrid", "selectFirst", "()V"⟩, 6) := ⟨⟨by decide +kernel, by decide +kernel⟩, List.mem_of_getElem? (i := 23) (by decide +kernel), List.mem_of_getElem? (i := 511) (by decide +kernel), List.mem_of_getElem? (i := 512) (by decide +kernel)⟩
theorem lw_p8 : lw_okq (⟨"MergeGrid$Table", "takeInCells", "(LMergeGrid$Area;)V"⟩, 9) := ⟨⟨by decide +kernel, by decide +kernel⟩, List.mem_of_getElem? (i := 31) (by decide +kernel), List.mem_of_getElem? (i := 533) (by decide +kernel), List.mem_of_getElem? (i := 534) (by decide +kernel)⟩
theorem lw_p9 : lw_okq (⟨"MergeGrid", "checkRow", "(I)V"⟩, 6) := ⟨⟨by decide +kernel, by decide +kernel⟩, List.mem_of_getElem? (i := 23) (by decide +kernel), List.mem_of_getElem? (i := 571) (by decide +kernel), List.mem_of_getElem? (i := 572) (by decide +kernel)⟩
theorem lw_p10 : lw_okq (⟨"MergeGrid", "checkColumn", "(I)V"⟩, 6) := ⟨⟨by decide +kernel, by decide +kernel⟩, List.mem_of_getElem? (i := 23) (by decide +kernel), List.mem_of_getElem? (i := 605) (by decide +kernel), List.mem_of_getElem? (i := 606) (by decide +kernel)⟩
theorem lw_p11 : lw_okq (⟨"MergeGrid$Table", "placeOf", "(I)I"⟩, 9) := ⟨⟨by decide +kernel, by decide +kernel⟩, List.mem_of_getElem? (i := 31) (by decide +kernel), List.mem_of_getElem? (i := 678) (by decide +kernel), List.mem_of_getElem? (i := 679) (by decide +kernel)⟩
theorem lw_p12 : lw_okq (⟨"MergeGrid", "checkSquare", "(II)V"⟩, 6) := ⟨⟨by decide +kernel, by decide +kernel⟩, List.mem_of_getElem? (i := 23) (by decide +kernel), List.mem_of_getElem? (i := 693) (by decide +kernel), List.mem_of_getElem? (i := 694) (by decide +kernel)⟩
theorem lw_p13 : lw_okq (⟨"MergeGrid$Table", "takeInBorders", "(LMergeGrid$Area;)V"⟩, 9) := ⟨⟨by decide +kernel, by decide +kernel⟩, List.mem_of_getElem? (i := 31) (by decide +kernel), List.mem_of_getElem? (i := 779) (by decide +kernel), List.mem_of_getElem? (i := 780) (by decide +kernel)⟩
theorem lw_p14 : lw_okq (⟨"MergeGrid$Table", "putOne", "(LMergeGrid$CellList;II)V"⟩, 9) := ⟨⟨by decide +kernel, by decide +kernel⟩, List.mem_of_getElem? (i := 31) (by decide +kernel), List.mem_of_getElem? (i := 866) (by decide +kernel), List.mem_of_getElem? (i := 867) (by decide +kernel)⟩
theorem lw_p15 : lw_okq (⟨"MergeGrid$Table", "rowsSortedBefore", "(IIZ)I"⟩, 9) := ⟨⟨by decide +kernel, by decide +kernel⟩, List.mem_of_getElem? (i := 31) (by decide +kernel), List.mem_of_getElem? (i := 889) (by decide +kernel), List.mem_of_getElem? (i := 890) (by decide +kernel)⟩
def lw_privs_1 : List (MethodName × Nat) := [(⟨"MergeGrid$Table", "settle", "()V"⟩, 9), (⟨"MergeGrid$Table", "own", "(I)V"⟩, 9), (⟨"MergeGrid$Table", "setOwner", "(III)V"⟩, 9), (⟨"MergeGrid$Table", "ownerOf", "(II)I"⟩, 9), (⟨"MergeGrid$Table", "ownsItsSquares", "(I)Z"⟩, 9), (⟨"java/lang/Throwable", "fillInStackTrace", "(I)Ljava/lang/Throwable;"⟩, 6), (⟨"MergeGrid", "remember", "()V"⟩, 6), (⟨"MergeGrid", "selectFirst", "()V"⟩, 6), (⟨"MergeGrid$Table", "takeInCells", "(LMergeGrid$Area;)V"⟩, 9), (⟨"MergeGrid", "checkRow", "(I)V"⟩, 6), (⟨"MergeGrid", "checkColumn", "(I)V"⟩, 6), (⟨"MergeGrid$Table", "placeOf", "(I)I"⟩, 9), (⟨"MergeGrid", "checkSquare", "(II)V"⟩, 6), (⟨"MergeGrid$Table", "takeInBorders", "(LMergeGrid$Area;)V"⟩, 9), (⟨"MergeGrid$Table", "putOne", "(LMergeGrid$CellList;II)V"⟩, 9), (⟨"MergeGrid$Table", "rowsSortedBefore", "(IIZ)I"⟩, 9)]
theorem lw_r1 : ∀ q ∈ lw_privs_1, lw_okq q := List.forall_mem_cons.mpr ⟨lw_p0, List.forall_mem_cons.mpr ⟨lw_p1, List.forall_mem_cons.mpr ⟨lw_p2, List.forall_mem_cons.mpr ⟨lw_p3, List.forall_mem_cons.mpr ⟨lw_p4, List.forall_mem_cons.mpr ⟨lw_p5, List.forall_mem_cons.mpr ⟨lw_p6, List.forall_mem_cons.mpr ⟨lw_p7, List.forall_mem_cons.mpr ⟨lw_p8, List.forall_mem_cons.mpr ⟨lw_p9, List.forall_mem_cons.mpr ⟨lw_p10, List.forall_mem_cons.mpr ⟨lw_p11, List.forall_mem_cons.mpr ⟨lw_p12, List.forall_mem_cons.mpr ⟨lw_p13, List.forall_mem_cons.mpr ⟨lw_p14, List.forall_mem_cons.mpr ⟨lw_p15, fun _ h => absurd h List.not_mem_nil⟩⟩⟩⟩⟩⟩⟩⟩⟩⟩⟩⟩⟩⟩⟩⟩
theorem lw_p16 : lw_okq (⟨"MergeGridModel", "settles", "()V"⟩, 37) := ⟨⟨by decide +kernel, by decide +kernel⟩, List.mem_of_getElem? (i := 1012) (by decide +kernel), List.mem_of_getElem? (i := 1018) (by decide +kernel), List.mem_of_getElem? (i := 1019) (by decide +kernel)⟩
theorem lw_p17 : lw_okq (⟨"MergeGridModel", "id", "(II)I"⟩, 37) := ⟨⟨by decide +kernel, by decide +kernel⟩, List.mem_of_getElem? (i := 1012) (by decide +kernel), List.mem_of_getElem? (i := 1022) (by decide +kernel), List.mem_of_getElem? (i := 1023) (by decide +kernel)⟩
theorem lw_p18 : lw_okq (⟨"MergeGridModel", "renames", "([I)V"⟩, 37) := ⟨⟨by decide +kernel, by decide +kernel⟩, List.mem_of_getElem? (i := 1012) (by decide +kernel), List.mem_of_getElem? (i := 1026) (by decide +kernel), List.mem_of_getElem? (i := 1027) (by decide +kernel)⟩
theorem lw_p19 : lw_okq (⟨"MergeGridModel", "fails", "(I)Z"⟩, 37) := ⟨⟨by decide +kernel, by decide +kernel⟩, List.mem_of_getElem? (i := 1012) (by decide +kernel), List.mem_of_getElem? (i := 1169) (by decide +kernel), List.mem_of_getElem? (i := 1170) (by decide +kernel)⟩
theorem lw_p20 : lw_okq (⟨"MergeGridModel", "keeps", "()V"⟩, 37) := ⟨⟨by decide +kernel, by decide +kernel⟩, List.mem_of_getElem? (i := 1012) (by decide +kernel), List.mem_of_getElem? (i := 1173) (by decide +kernel), List.mem_of_getElem? (i := 1174) (by decide +kernel)⟩
theorem lw_p21 : lw_okq (⟨"MergeGridModel", "putsAside", "()V"⟩, 37) := ⟨⟨by decide +kernel, by decide +kernel⟩, List.mem_of_getElem? (i := 1012) (by decide +kernel), List.mem_of_getElem? (i := 1177) (by decide +kernel), List.mem_of_getElem? (i := 1178) (by decide +kernel)⟩
theorem lw_p22 : lw_okq (⟨"MergeGridModel", "freshens", "()V"⟩, 37) := ⟨⟨by decide +kernel, by decide +kernel⟩, List.mem_of_getElem? (i := 1012) (by decide +kernel), List.mem_of_getElem? (i := 1181) (by decide +kernel), List.mem_of_getElem? (i := 1182) (by decide +kernel)⟩
theorem lw_p23 : lw_okq (⟨"MergeGridModel", "startsAnew", "()V"⟩, 37) := ⟨⟨by decide +kernel, by decide +kernel⟩, List.mem_of_getElem? (i := 1012) (by decide +kernel), List.mem_of_getElem? (i := 1185) (by decide +kernel), List.mem_of_getElem? (i := 1186) (by decide +kernel)⟩
theorem lw_p24 : lw_okq (⟨"MergeGridModel", "spans", "(IIII)V"⟩, 37) := ⟨⟨by decide +kernel, by decide +kernel⟩, List.mem_of_getElem? (i := 1012) (by decide +kernel), List.mem_of_getElem? (i := 1189) (by decide +kernel), List.mem_of_getElem? (i := 1190) (by decide +kernel)⟩
theorem lw_p25 : lw_okq (⟨"MergeGridModel", "grows", "()V"⟩, 37) := ⟨⟨by decide +kernel, by decide +kernel⟩, List.mem_of_getElem? (i := 1012) (by decide +kernel), List.mem_of_getElem? (i := 1193) (by decide +kernel), List.mem_of_getElem? (i := 1194) (by decide +kernel)⟩
theorem lw_p26 : lw_okq (⟨"MergeGridModel", "isCut", "(I)Z"⟩, 37) := ⟨⟨by decide +kernel, by decide +kernel⟩, List.mem_of_getElem? (i := 1012) (by decide +kernel), List.mem_of_getElem? (i := 1197) (by decide +kernel), List.mem_of_getElem? (i := 1198) (by decide +kernel)⟩
theorem lw_p27 : lw_okq (⟨"MergeGridModel", "isIn", "(II)Z"⟩, 37) := ⟨⟨by decide +kernel, by decide +kernel⟩, List.mem_of_getElem? (i := 1012) (by decide +kernel), List.mem_of_getElem? (i := 1201) (by decide +kernel), List.mem_of_getElem? (i := 1202) (by decide +kernel)⟩
theorem lw_p28 : lw_okq (⟨"MergeGridModel", "takesIn", "(I)V"⟩, 37) := ⟨⟨by decide +kernel, by decide +kernel⟩, List.mem_of_getElem? (i := 1012) (by decide +kernel), List.mem_of_getElem? (i := 1205) (by decide +kernel), List.mem_of_getElem? (i := 1206) (by decide +kernel)⟩
theorem lw_p29 : lw_okq (⟨"MergeGridModel", "selects", "()V"⟩, 37) := ⟨⟨by decide +kernel, by decide +kernel⟩, List.mem_of_getElem? (i := 1012) (by decide +kernel), List.mem_of_getElem? (i := 1209) (by decide +kernel), List.mem_of_getElem? (i := 1210) (by decide +kernel)⟩
theorem lw_p30 : lw_okq (⟨"MergeGridModel", "isTied", "(II)Z"⟩, 37) := ⟨⟨by decide +kernel, by decide +kernel⟩, List.mem_of_getElem? (i := 1012) (by decide +kernel), List.mem_of_getElem? (i := 1229) (by decide +kernel), List.mem_of_getElem? (i := 1230) (by decide +kernel)⟩
theorem lw_p31 : lw_okq (⟨"MergeGridModel", "exchanges", "(I)V"⟩, 37) := ⟨⟨by decide +kernel, by decide +kernel⟩, List.mem_of_getElem? (i := 1012) (by decide +kernel), List.mem_of_getElem? (i := 1233) (by decide +kernel), List.mem_of_getElem? (i := 1234) (by decide +kernel)⟩
def lw_privs_2 : List (MethodName × Nat) := [(⟨"MergeGridModel", "settles", "()V"⟩, 37), (⟨"MergeGridModel", "id", "(II)I"⟩, 37), (⟨"MergeGridModel", "renames", "([I)V"⟩, 37), (⟨"MergeGridModel", "fails", "(I)Z"⟩, 37), (⟨"MergeGridModel", "keeps", "()V"⟩, 37), (⟨"MergeGridModel", "putsAside", "()V"⟩, 37), (⟨"MergeGridModel", "freshens", "()V"⟩, 37), (⟨"MergeGridModel", "startsAnew", "()V"⟩, 37), (⟨"MergeGridModel", "spans", "(IIII)V"⟩, 37), (⟨"MergeGridModel", "grows", "()V"⟩, 37), (⟨"MergeGridModel", "isCut", "(I)Z"⟩, 37), (⟨"MergeGridModel", "isIn", "(II)Z"⟩, 37), (⟨"MergeGridModel", "takesIn", "(I)V"⟩, 37), (⟨"MergeGridModel", "selects", "()V"⟩, 37), (⟨"MergeGridModel", "isTied", "(II)Z"⟩, 37), (⟨"MergeGridModel", "exchanges", "(I)V"⟩, 37)]
theorem lw_r2 : ∀ q ∈ lw_privs_2, lw_okq q := List.forall_mem_cons.mpr ⟨lw_p16, List.forall_mem_cons.mpr ⟨lw_p17, List.forall_mem_cons.mpr ⟨lw_p18, List.forall_mem_cons.mpr ⟨lw_p19, List.forall_mem_cons.mpr ⟨lw_p20, List.forall_mem_cons.mpr ⟨lw_p21, List.forall_mem_cons.mpr ⟨lw_p22, List.forall_mem_cons.mpr ⟨lw_p23, List.forall_mem_cons.mpr ⟨lw_p24, List.forall_mem_cons.mpr ⟨lw_p25, List.forall_mem_cons.mpr ⟨lw_p26, List.forall_mem_cons.mpr ⟨lw_p27, List.forall_mem_cons.mpr ⟨lw_p28, List.forall_mem_cons.mpr ⟨lw_p29, List.forall_mem_cons.mpr ⟨lw_p30, List.forall_mem_cons.mpr ⟨lw_p31, fun _ h => absurd h List.not_mem_nil⟩⟩⟩⟩⟩⟩⟩⟩⟩⟩⟩⟩⟩⟩⟩⟩
theorem lw_p32 : lw_okq (⟨"MergeGridModel", "failsSquare", "(II)Z"⟩, 37) := ⟨⟨by decide +kernel, by decide +kernel⟩, List.mem_of_getElem? (i := 1012) (by decide +kernel), List.mem_of_getElem? (i := 1241) (by decide +kernel), List.mem_of_getElem? (i := 1242) (by decide +kernel)⟩
theorem lw_p33 : lw_okq (⟨"MergeGridModel", "isSquare", "(II)Z"⟩, 37) := ⟨⟨by decide +kernel, by decide +kernel⟩, List.mem_of_getElem? (i := 1012) (by decide +kernel), List.mem_of_getElem? (i := 1245) (by decide +kernel), List.mem_of_getElem? (i := 1246) (by decide +kernel)⟩
theorem lw_p34 : lw_okq (⟨"MergeGridModel", "topRow", "(I)I"⟩, 37) := ⟨⟨by decide +kernel, by decide +kernel⟩, List.mem_of_getElem? (i := 1012) (by decide +kernel), List.mem_of_getElem? (i := 1249) (by decide +kernel), List.mem_of_getElem? (i := 1250) (by decide +kernel)⟩
theorem lw_p35 : lw_okq (⟨"MergeGridModel", "leftCol", "(I)I"⟩, 37) := ⟨⟨by decide +kernel, by decide +kernel⟩, List.mem_of_getElem? (i := 1012) (by decide +kernel), List.mem_of_getElem? (i := 1257) (by decide +kernel), List.mem_of_getElem? (i := 1258) (by decide +kernel)⟩
theorem lw_p36 : lw_okq (⟨"MergeGridModel", "rowMany", "(I)I"⟩, 37) := ⟨⟨by decide +kernel, by decide +kernel⟩, List.mem_of_getElem? (i := 1012) (by decide +kernel), List.mem_of_getElem? (i := 1265) (by decide +kernel), List.mem_of_getElem? (i := 1266) (by decide +kernel)⟩
theorem lw_p37 : lw_okq (⟨"MergeGridModel", "colMany", "(I)I"⟩, 37) := ⟨⟨by decide +kernel, by decide +kernel⟩, List.mem_of_getElem? (i := 1012) (by decide +kernel), List.mem_of_getElem? (i := 1273) (by decide +kernel), List.mem_of_getElem? (i := 1274) (by decide +kernel)⟩
theorem lw_p38 : lw_okq (⟨"MergeGridModel", "isChosen", "(I)Z"⟩, 37) := ⟨⟨by decide +kernel, by decide +kernel⟩, List.mem_of_getElem? (i := 1012) (by decide +kernel), List.mem_of_getElem? (i := 1293) (by decide +kernel), List.mem_of_getElem? (i := 1294) (by decide +kernel)⟩
theorem lw_p39 : lw_okq (⟨"MergeGridModel", "failsTwo", "(IIII)Z"⟩, 37) := ⟨⟨by decide +kernel, by decide +kernel⟩, List.mem_of_getElem? (i := 1012) (by decide +kernel), List.mem_of_getElem? (i := 1301) (by decide +kernel), List.mem_of_getElem? (i := 1302) (by decide +kernel)⟩
theorem lw_p40 : lw_okq (⟨"MergeGridModel", "chosen", "()I"⟩, 37) := ⟨⟨by decide +kernel, by decide +kernel⟩, List.mem_of_getElem? (i := 1012) (by decide +kernel), List.mem_of_getElem? (i := 1313) (by decide +kernel), List.mem_of_getElem? (i := 1314) (by decide +kernel)⟩
theorem lw_p41 : lw_okq (⟨"MergeGridModel", "filled", "()I"⟩, 37) := ⟨⟨by decide +kernel, by decide +kernel⟩, List.mem_of_getElem? (i := 1012) (by decide +kernel), List.mem_of_getElem? (i := 1325) (by decide +kernel), List.mem_of_getElem? (i := 1326) (by decide +kernel)⟩
theorem lw_p42 : lw_okq (⟨"MergeGridModel", "chosenSum", "()I"⟩, 37) := ⟨⟨by decide +kernel, by decide +kernel⟩, List.mem_of_getElem? (i := 1012) (by decide +kernel), List.mem_of_getElem? (i := 1329) (by decide +kernel), List.mem_of_getElem? (i := 1330) (by decide +kernel)⟩
theorem lw_p43 : lw_okq (⟨"MergeGridModel", "parts", "(IC)V"⟩, 37) := ⟨⟨by decide +kernel, by decide +kernel⟩, List.mem_of_getElem? (i := 1012) (by decide +kernel), List.mem_of_getElem? (i := 1337) (by decide +kernel), List.mem_of_getElem? (i := 1338) (by decide +kernel)⟩
theorem lw_p44 : lw_okq (⟨"MergeGridModel", "placed", "(ICII)V"⟩, 37) := ⟨⟨by decide +kernel, by decide +kernel⟩, List.mem_of_getElem? (i := 1012) (by decide +kernel), List.mem_of_getElem? (i := 1341) (by decide +kernel), List.mem_of_getElem? (i := 1342) (by decide +kernel)⟩
theorem lw_p45 : lw_okq (⟨"MergeGridModel", "beginOf", "(ICIIII)I"⟩, 37) := ⟨⟨by decide +kernel, by decide +kernel⟩, List.mem_of_getElem? (i := 1012) (by decide +kernel), List.mem_of_getElem? (i := 1345) (by decide +kernel), List.mem_of_getElem? (i := 1346) (by decide +kernel)⟩
theorem lw_p46 : lw_okq (⟨"MergeGridModel", "spreads", "(I)V"⟩, 37) := ⟨⟨by decide +kernel, by decide +kernel⟩, List.mem_of_getElem? (i := 1012) (by decide +kernel), List.mem_of_getElem? (i := 1349) (by decide +kernel), List.mem_of_getElem? (i := 1350) (by decide +kernel)⟩
theorem lw_p47 : lw_okq (⟨"MergeGridModel", "isAnyCut", "()Z"⟩, 37) := ⟨⟨by decide +kernel, by decide +kernel⟩, List.mem_of_getElem? (i := 1012) (by decide +kernel), List.mem_of_getElem? (i := 1365) (by decide +kernel), List.mem_of_getElem? (i := 1366) (by decide +kernel)⟩
def lw_privs_3 : List (MethodName × Nat) := [(⟨"MergeGridModel", "failsSquare", "(II)Z"⟩, 37), (⟨"MergeGridModel", "isSquare", "(II)Z"⟩, 37), (⟨"MergeGridModel", "topRow", "(I)I"⟩, 37), (⟨"MergeGridModel", "leftCol", "(I)I"⟩, 37), (⟨"MergeGridModel", "rowMany", "(I)I"⟩, 37), (⟨"MergeGridModel", "colMany", "(I)I"⟩, 37), (⟨"MergeGridModel", "isChosen", "(I)Z"⟩, 37), (⟨"MergeGridModel", "failsTwo", "(IIII)Z"⟩, 37), (⟨"MergeGridModel", "chosen", "()I"⟩, 37), (⟨"MergeGridModel", "filled", "()I"⟩, 37), (⟨"MergeGridModel", "chosenSum", "()I"⟩, 37), (⟨"MergeGridModel", "parts", "(IC)V"⟩, 37), (⟨"MergeGridModel", "placed", "(ICII)V"⟩, 37), (⟨"MergeGridModel", "beginOf", "(ICIIII)I"⟩, 37), (⟨"MergeGridModel", "spreads", "(I)V"⟩, 37), (⟨"MergeGridModel", "isAnyCut", "()Z"⟩, 37)]
theorem lw_r3 : ∀ q ∈ lw_privs_3, lw_okq q := List.forall_mem_cons.mpr ⟨lw_p32, List.forall_mem_cons.mpr ⟨lw_p33, List.forall_mem_cons.mpr ⟨lw_p34, List.forall_mem_cons.mpr ⟨lw_p35, List.forall_mem_cons.mpr ⟨lw_p36, List.forall_mem_cons.mpr ⟨lw_p37, List.forall_mem_cons.mpr ⟨lw_p38, List.forall_mem_cons.mpr ⟨lw_p39, List.forall_mem_cons.mpr ⟨lw_p40, List.forall_mem_cons.mpr ⟨lw_p41, List.forall_mem_cons.mpr ⟨lw_p42, List.forall_mem_cons.mpr ⟨lw_p43, List.forall_mem_cons.mpr ⟨lw_p44, List.forall_mem_cons.mpr ⟨lw_p45, List.forall_mem_cons.mpr ⟨lw_p46, List.forall_mem_cons.mpr ⟨lw_p47, fun _ h => absurd h List.not_mem_nil⟩⟩⟩⟩⟩⟩⟩⟩⟩⟩⟩⟩⟩⟩⟩⟩
theorem lw_p48 : lw_okq (⟨"MergeGridModel", "isParted", "(II)Z"⟩, 37) := ⟨⟨by decide +kernel, by decide +kernel⟩, List.mem_of_getElem? (i := 1012) (by decide +kernel), List.mem_of_getElem? (i := 1369) (by decide +kernel), List.mem_of_getElem? (i := 1370) (by decide +kernel)⟩
theorem lw_p49 : lw_okq (⟨"MergeGridModel", "lays", "()V"⟩, 37) := ⟨⟨by decide +kernel, by decide +kernel⟩, List.mem_of_getElem? (i := 1012) (by decide +kernel), List.mem_of_getElem? (i := 1373) (by decide +kernel), List.mem_of_getElem? (i := 1374) (by decide +kernel)⟩
theorem lw_p50 : lw_okq (⟨"MergeGridModel", "pastedBegin", "(II)I"⟩, 37) := ⟨⟨by decide +kernel, by decide +kernel⟩, List.mem_of_getElem? (i := 1012) (by decide +kernel), List.mem_of_getElem? (i := 1377) (by decide +kernel), List.mem_of_getElem? (i := 1378) (by decide +kernel)⟩
theorem lw_p51 : lw_okq (⟨"MergeGridModel", "oldBegin", "(II)I"⟩, 37) := ⟨⟨by decide +kernel, by decide +kernel⟩, List.mem_of_getElem? (i := 1012) (by decide +kernel), List.mem_of_getElem? (i := 1381) (by decide +kernel), List.mem_of_getElem? (i := 1382) (by decide +kernel)⟩
theorem lw_p52 : lw_okq (⟨"MergeGridModel", "isTiedAt", "(I)Z"⟩, 37) := ⟨⟨by decide +kernel, by decide +kernel⟩, List.mem_of_getElem? (i := 1012) (by decide +kernel), List.mem_of_getElem? (i := 1389) (by decide +kernel), List.mem_of_getElem? (i := 1390) (by decide +kernel)⟩
theorem lw_p53 : lw_okq (⟨"MergeGridModel", "isCol", "(I)Z"⟩, 37) := ⟨⟨by decide +kernel, by decide +kernel⟩, List.mem_of_getElem? (i := 1012) (by decide +kernel), List.mem_of_getElem? (i := 1405) (by decide +kernel), List.mem_of_getElem? (i := 1406) (by decide +kernel)⟩
def lw_privs_4 : List (MethodName × Nat) := [(⟨"MergeGridModel", "isParted", "(II)Z"⟩, 37), (⟨"MergeGridModel", "lays", "()V"⟩, 37), (⟨"MergeGridModel", "pastedBegin", "(II)I"⟩, 37), (⟨"MergeGridModel", "oldBegin", "(II)I"⟩, 37), (⟨"MergeGridModel", "isTiedAt", "(I)Z"⟩, 37), (⟨"MergeGridModel", "isCol", "(I)Z"⟩, 37)]
theorem lw_r4 : ∀ q ∈ lw_privs_4, lw_okq q := List.forall_mem_cons.mpr ⟨lw_p48, List.forall_mem_cons.mpr ⟨lw_p49, List.forall_mem_cons.mpr ⟨lw_p50, List.forall_mem_cons.mpr ⟨lw_p51, List.forall_mem_cons.mpr ⟨lw_p52, List.forall_mem_cons.mpr ⟨lw_p53, fun _ h => absurd h List.not_mem_nil⟩⟩⟩⟩⟩⟩
def lw_privs : List (MethodName × Nat) := lw_privs_1 ++ (lw_privs_2 ++ (lw_privs_3 ++ (lw_privs_4)))
def lw_tbl : List Cond := k2_sels lw_privs ++ tables_1
theorem lw_privs_ok : ∀ q ∈ lw_privs, lw_okq q := by
  show ∀ q ∈ lw_privs_1 ++ (lw_privs_2 ++ (lw_privs_3 ++ (lw_privs_4))), lw_okq q
  exact List.forall_mem_append.mpr ⟨lw_r1, List.forall_mem_append.mpr ⟨lw_r2, List.forall_mem_append.mpr ⟨lw_r3, lw_r4⟩⟩⟩
/-- the streams that the claim lets the run draw from -/
abbrev lw_cs : List Choice := [Jvm.Choice.named "NaN.bits"]
theorem lw_bits : nanBits ∈ lw_cs := by first | decide | exact List.mem_cons_self | simp [lw_cs, nanBits]

/-! ===== BEGIN words of one list among another's, by their places ===== -/
theorem goodIn_r {big : List Cond} (ws : List Cond) (ps : List Nat) (hp : ws = ps.filterMap (fun i => big[i]?)) (h : ws.all goodWord = true) : GoodIn big ws := by
  intro w hw
  have h1 := List.all_eq_true.mp h w hw
  rw [hp] at hw
  obtain ⟨i, -, hi⟩ := List.mem_filterMap.mp hw
  have hm : w ∈ big := by first | exact List.mem_of_getElem? hi | exact List.getElem?_mem hi
  exact ⟨hm, good_of_word h1⟩
theorem goodIn_app {big a b : List Cond} (ha : GoodIn big a) (hb : GoodIn big b) : GoodIn big (a ++ b) := fun w h => (List.mem_append.mp h).elim (ha w) (hb w)
theorem goodIn_ca {big a b : List Cond} {c : Cond} (ha : GoodIn big (c :: a)) (hb : GoodIn big b) : GoodIn big (c :: (a ++ b)) := fun w h => (List.mem_cons.mp h).elim (fun e => ha w (List.mem_cons.mpr (Or.inl e))) (fun h => (List.mem_append.mp h).elim (fun h => ha w (List.mem_cons.mpr (Or.inr h))) (hb w))
theorem goodIn_sub {big ws : List Cond} (hm : ∀ w ∈ ws, w ∈ big) (h : ws.all goodWord = true) : GoodIn big ws := fun w hw => ⟨hm w hw, good_of_word (List.all_eq_true.mp h w hw)⟩
/-! ===== END ===== -/

/-! ===== BEGIN exceptions that leave a method, and their catching by the caller (launches without stack traces) ===== -/
section VXA
/-! The laws vx_back, vx_callV, vx_callS, vx_callSW, vx_throw0, vx_throwS follow proofs of the library, with one case more: JvmDerived/Free/Laws.lean (Back.of_free), Shelf42/LK1.lean (callV, callS), Shelf/KitTraced.lean (throwNew0V, throwNewS). -/
/-- where a method has thrown q: the class by its name, the cell, what was written, the world -/
def vx_T (XC : String → State → State → Prop) (st : State) (q : Addr) (t : State) (mc ms : Nat) (free : Addr → Prop) : Prop :=
  ∃ (E : String) (ce : Cell) (L : List Loc), XC E st t ∧ t.heap[q]? = some ce ∧ ce.vm = .none ∧ st.vm.findClass E = some ce.cls ∧ st.WarmedH t.vm ∧ st.sameButNew ({ t with vm := st.vm } : State) L mc ms ∧ ∀ z ∈ L, free z.base
def vx_Q (Qc : Array Value → State → Outcome → State → Prop) (XC : String → State → State → Prop) (mc ms : Nat) (free : Addr → Prop) : Array Value → State → Outcome → State → Prop := fun a st o t =>
  (Qc a st o t ∧ ∃ L, FrameEnd st o t L mc ms ∧ ∀ q ∈ L, free q.base) ∨ ∃ q, o = .threw q ∧ vx_T XC st q t mc ms free
/-- a callee that returns or throws -/
def vx_Met (l : Launch) (y : MethodName) (ws : List Cond) (rm : Room) (Pc : Array Value → State → Prop) (Qc : Array Value → State → Outcome → State → Prop) (XC : String → State → State → Prop) (mc ms : Nat) (free : Addr → Prop) : Prop :=
  MetFree l y (headSpec ws rm) Pc (fun _ _ _ _ _ => True) (vx_Q Qc XC mc ms free)
def vx_Post (XC : String → State → State → Prop) (mc ms : Nat) (free : Addr → Prop) : Pt → Array Value → Addr → Pt → Prop := fun A a q B =>
  ∃ (g : JFrame) (mk : MethodId) (t : State) (L : List Loc) (E : String) (ce : Cell), B.U.heap = t.heap ∧ B.U.vm = t.vm ∧ XC E (A.U.calling g mk a) t ∧ t.heap[q]? = some ce ∧ ce.vm = .none ∧ A.U.vm.findClass E = some ce.cls ∧ B.locs = A.locs ++ L ∧ (∀ z ∈ L, free z.base) ∧ B.cells = A.cells + mc ∧ B.slots = A.slots + ms
def vx_Back (l : Launch) (R : Room) (p : Program) (e : Env) (below : List Frame) (s : State) (sargs : Array Value) (y : MethodName) (len W9 : Nat)
    (Pre : Pt → Array Value → Prop) (Post : Pt → Array Value → Option Value → Pt → Prop) (PostX : Pt → Array Value → Addr → Pt → Prop) : Prop :=
  ∀ (m : MethodId) (meth : Method) (c : Code) (A : Pt) (g : JFrame) (ig : Instr) (mk : MethodId) (a : Array Value),
    Stand p l e R s m sargs below meth c A.U A.locs A.cells A.slots → g.method = m → g.locals.size = c.maxLocals → decode c.code g.pc = .ok (ig, len) →
    2 * g.monitorRoom + (g.stack.map fun v => v.category).sum ≤ W9 → A.U.methodNamed? y = some mk → Pre A a →
    (∃ (v : Option Value) (B : Pt), Stand p l e R s m sargs below meth c B.U B.locs B.cells B.slots ∧ Post A a v B ∧
      Steps p.tables e below (doInvoke e (A.U.setTop g) [] mk a).1 (B.U.setTop { g with pc := g.pc + len, stack := v.toList ++ g.stack })) ∨
    (∃ (q : Addr) (B : Pt), Stand p l e R s m sargs below meth c B.U B.locs B.cells B.slots ∧ PostX A a q B ∧
      Steps p.tables e below (doInvoke e (A.U.setTop g) [] mk a).1 ((B.U.setTop g).pushFrame (.throwing q)))
section Payer
variable {l : Launch} {R : Room} {p : Program} {e : Env} {below : List Frame} {s : State} {sargs : Array Value} {y : MethodName} {len W9 : Nat}
theorem vx_back {ws : List Cond} {rm : Room} {Pc : Array Value → State → Prop} {Qc : Array Value → State → Outcome → State → Prop} {XC : String → State → State → Prop} {mc ms : Nat} {free : Addr → Prop} {bytes : ByteArray} {maxL : Nat} {ret : Option FieldType}
    (hM : vx_Met l y ws rm Pc Qc XC mc ms free) (hblind : FrameBlind Pc) (hrc : rm.cells = mc) (hrs : rm.slots = ms)
    (hframes : rm.frames + 1 ≤ R.frames) (hlocals : W9 + (maxL + 11) + rm.locals ≤ R.locals)
    (hws : ∀ w ∈ ws, ∀ a' U, s.WarmedH U.vm → w.before a' U = true) (hcode : Cond.code y bytes maxL ret ∈ ws) (hinit : ∀ a' U, s.WarmedH U.vm → (Cond.initialized y.cls).before a' U = true) :
    vx_Back l R p e below s sargs y len W9 (PreOf R mc ms Pc) (PostOf Qc mc ms free) (vx_Post XC mc ms free) := by
  intro m meth c A g ig mk a X hg hsize hdg hW hn hp
  have h1 : (headSpec ws rm).pre.before a A.U = true := atoms_intro fun w hw => hws w hw _ _ X.warmed
  have h2 : (Cond.code y bytes maxL ret).before a A.U = true := hws _ hcode _ _ X.warmed
  have h3 : (Cond.initialized y.cls).before a A.U = true := hinit _ _ X.warmed
  have h4 : A.cells + (headSpec ws rm).room.cells ≤ R.cells := by rw [show (headSpec ws rm).room.cells = mc from hrc]; exact hp.1
  have h5 : A.slots + (headSpec ws rm).room.slots ≤ R.slots := by rw [show (headSpec ws rm).room.slots = ms from hrs]; exact hp.2.1
  have hPc : Pc a (A.U.calling g mk a) := hblind _ _ _ _ hp.2.2
  obtain ⟨U, Ls, c0, s0⟩ := A
  dsimp only [Pt.U, Pt.locs, Pt.cells, Pt.slots] at h1 h2 h3 h4 h5 X hn hPc ⊢
  obtain ⟨methY, cY, hmY, hcY, -, hlY, -, -, -, -⟩ := Cond.code_spec hn h2
  obtain ⟨kY, hkY, -⟩ := className_of_methodNamed hn
  have hinitY : kY.init = .initialized := Cond.initialized_spec (findClass_of_methodNamed hn) hkY h3
  have h : At U g.method c below := by rw [hg]; exact X.here
  have hlocals9 : W9 + (maxL + 11) + (headSpec ws rm).room.locals ≤ R.locals := hlocals
  have happ : (headSpec ws rm).appliesLoose y e.platform (U.calling g mk a) = true :=
    Spec.appliesLoose_calling (g := g) h hdg hn hkY hinitY
      (X.room_calling (g := g) (R' := (headSpec ws rm).room) hsize hmY hcY hframes (by rw [hlY]; omega) h4 h5) h1
  obtain ⟨mid, hmid⟩ := h.above
  have hfr : (U.setTop g).frames = (.java g :: mid) ++ below := by rw [State.frames_setTop' g h.top, hmid]; rfl
  obtain ⟨o, s₂, hsteps, -, hend, hq⟩ := Steps.callFree hM p X.admits X.cas X.clock (acts := []) hfr happ hPc trivial
  have hq' : vx_Q Qc XC mc ms free a (U.calling g mk a) o s₂ := hq
  rw [State.frames_setTop' g h.top] at hend
  obtain ⟨g₀, hg0⟩ := Option.isSome_iff_exists.mp h.top
  obtain ⟨r, hr⟩ := State.topJava?_eq_some.mp hg0
  have hr' : (({ U with heap := s₂.heap, slotsUsed := s₂.slotsUsed } : State).setVm s₂.vm).frames = .java g₀ :: r := hr
  rcases hq' with ⟨hqc, L, hfe, hL⟩ | ⟨q, rfl, E, ce, L, hx, hce, hcv, hcl, hW₂, hsm, hL⟩
  · obtain ⟨⟨v, rfl⟩, hW₂, e2, q2, q3, q4, q5, q6⟩ := id hfe
    have e3 : s₂ = ({ (U.calling g mk a).setFrames s₂.frames with heap := s₂.heap, slotsUsed := s₂.slotsUsed } : State).setVm s₂.vm := by
      have : s₂ = ({ s₂ with vm := (U.calling g mk a).vm } : State).setVm s₂.vm := rfl
      rw [e2] at this
      exact this
    obtain ⟨c₂, i₂, len₂, hc₂, hd₂, hf₂⟩ := hend
    have hW' : U.WarmedH s₂.vm := hW₂
    have hcc : c₂ = c := by
      have h1 : s₂.code? g.method = U.code? g.method := by
        rw [State.code?_eq, State.code?_eq, hW'.alike.method?]
      exact Option.some.inj (hc₂.symm.trans (h1.trans h.code))
    subst hcc
    have hlen : len₂ = len := by rw [hdg] at hd₂; cases hd₂; rfl
    subst hlen
    have hs₂ : s₂ = (({ U with heap := s₂.heap, slotsUsed := s₂.slotsUsed } : State).setVm s₂.vm).setTop { g with pc := g.pc + len₂, stack := v.toList ++ g.stack } := by
      refine e3.trans ?_
      rw [hf₂, State.calling_eq h.top, State.setFrames_setFrames, State.setTop_of_frames _ hr', hr]
      rfl
    have hsame : U.sameButNew ({ U with heap := s₂.heap, slotsUsed := s₂.slotsUsed } : State) L mc ms := by
      refine ⟨?_, q2, q3, q4, q5, q6⟩
      obtain ⟨t, ht, -⟩ := State.frames_cons hr
      show ({ U with heap := s₂.heap, slotsUsed := s₂.slotsUsed } : State) = { U.setFrames U.frames with heap := s₂.heap, slotsUsed := s₂.slotsUsed }
      rw [State.setFrames_self ht]
    subst hg
    refine Or.inl ⟨v, ⟨(({ U with heap := s₂.heap, slotsUsed := s₂.slotsUsed } : State).setVm s₂.vm), Ls ++ L, c0 + mc, s0 + ms⟩,
      ⟨X.admits, X.cas, X.clock, X.frames, X.room, X.hears, X.method, X.code, (X.here.setHeapUsed s₂.heap s₂.slotsUsed).setVm hW'.alike, X.tail, State.WarmedH.trans X.warmed hW', X.limits, X.bytes, X.same.trans (hsame.setVm s.vm)⟩,
      ⟨g, mk, s₂, L, rfl, rfl, hqc, rfl, hL, rfl, rfl⟩, ?_⟩
    show Steps p.tables e below _ ((({ U with heap := s₂.heap, slotsUsed := s₂.slotsUsed } : State).setVm s₂.vm).setTop { g with pc := g.pc + len₂, stack := v.toList ++ g.stack })
    rw [← hs₂]
    exact hsteps
  · obtain ⟨e2, q2, q3, q4, q5, q6⟩ := id hsm
    have e3 : s₂ = ({ (U.calling g mk a).setFrames s₂.frames with heap := s₂.heap, slotsUsed := s₂.slotsUsed } : State).setVm s₂.vm := by
      have : s₂ = ({ s₂ with vm := (U.calling g mk a).vm } : State).setVm s₂.vm := rfl
      rw [e2] at this
      exact this
    have hf₂ : s₂.frames = .throwing q :: .java g :: U.frames.tail := hend
    have hW' : U.WarmedH s₂.vm := hW₂
    have hs₂ : s₂ = ((({ U with heap := s₂.heap, slotsUsed := s₂.slotsUsed } : State).setVm s₂.vm).setTop g).pushFrame (.throwing q) := by
      refine e3.trans ?_
      rw [hf₂, State.calling_eq h.top, State.setFrames_setFrames, State.pushFrame, State.frames_setTop _ hr', State.setTop_of_frames _ hr', State.setFrames_setFrames, hr]
      rfl
    have hsame : U.sameButNew ({ U with heap := s₂.heap, slotsUsed := s₂.slotsUsed } : State) L mc ms := by
      refine ⟨?_, q2, q3, q4, q5, q6⟩
      obtain ⟨t, ht, -⟩ := State.frames_cons hr
      show ({ U with heap := s₂.heap, slotsUsed := s₂.slotsUsed } : State) = { U.setFrames U.frames with heap := s₂.heap, slotsUsed := s₂.slotsUsed }
      rw [State.setFrames_self ht]
    subst hg
    refine Or.inr ⟨q, ⟨(({ U with heap := s₂.heap, slotsUsed := s₂.slotsUsed } : State).setVm s₂.vm), Ls ++ L, c0 + mc, s0 + ms⟩,
      ⟨X.admits, X.cas, X.clock, X.frames, X.room, X.hears, X.method, X.code, (X.here.setHeapUsed s₂.heap s₂.slotsUsed).setVm hW'.alike, X.tail, State.WarmedH.trans X.warmed hW', X.limits, X.bytes, X.same.trans (hsame.setVm s.vm)⟩,
      ⟨g, mk, s₂, L, E, ce, rfl, rfl, hx, hce, hcv, hcl, rfl, hL, rfl, rfl⟩, ?_⟩
    show Steps p.tables e below _ (((({ U with heap := s₂.heap, slotsUsed := s₂.slotsUsed } : State).setVm s₂.vm).setTop g).pushFrame (.throwing q))
    rw [← hs₂]
    exact hsteps
end Payer
section Calls
variable {p : Program} {l : Launch} {e : Env} {R : Room} {s : State} {m : MethodId} {args : Array Value} {below : List Frame} {meth : Method} {c : Code} {T : State} {locs : List Loc} {cells slots : Nat}
theorem vx_callV (X : Stand p l e R s m args below meth c T locs cells slots) (hexec : p.tables.exec = Jvm.exec) {own C : String} {index : Nat} {y : MethodName} {bytes : ByteArray} {maxL : Nat} {ret : Option FieldType}
    (hown : s.vm.findClass own = some m.cls) (hlink : (Cond.methodLink own index y).before args s = true) (hinst : (Cond.instanceMethod y).before args s = true) (hsel : (Cond.selects C y y).before args s = true)
    (hcode : (Cond.code y bytes maxL ret).before args s = true) (hy : y.cls ≠ "java/lang/invoke/MethodHandle" ∧ y.cls ≠ "java/lang/invoke/VarHandle")
    {W9 : Nat} {Pre : Pt → Array Value → Prop} {Post : Pt → Array Value → Option Value → Pt → Prop} {PostX : Pt → Array Value → Addr → Pt → Prop} (hK : vx_Back l R p e below s args y 3 W9 Pre Post PostX)
    {b : Addr} {cellB : Cell} (hcell : T.heap[b]? = some cellB) (hobj : cellB.vm.isStatics = false) (hcls : s.vm.findClass C = some cellB.cls)
    {g : JFrame} (hg : g.method = m) (hsize : g.locals.size = c.maxLocals) {argsL rest : List Value} (hlen : ∀ sig, parseMethodDescriptor y.desc = some sig → argsL.length = sig.parameters.length)
    (hstack : g.stack = argsL.reverse ++ .ref b :: rest) (hW : 2 * g.monitorRoom + (rest.map fun v => v.category).sum ≤ W9) (hdg : decode c.code g.pc = .ok (.invokevirtual index, 3))
    (hpre : ∀ vm₁, s.WarmedH vm₁ → Pre ⟨T.setVm vm₁, locs, cells, slots⟩ (Value.ref b :: argsL).toArray) :
    (∃ (v : Option Value) (vm₁ : Vm) (B : Pt), s.WarmedH vm₁ ∧ Stand p l e R s m args below meth c B.U B.locs B.cells B.slots ∧ Post ⟨T.setVm vm₁, locs, cells, slots⟩ (Value.ref b :: argsL).toArray v B ∧
      ∀ target, Steps p.tables e below (B.U.setTop { g with pc := g.pc + 3, stack := v.toList ++ rest }) target → Steps p.tables e below (T.setTop g) target) ∨
    (∃ (q : Addr) (vm₁ : Vm) (B : Pt), s.WarmedH vm₁ ∧ Stand p l e R s m args below meth c B.U B.locs B.cells B.slots ∧ PostX ⟨T.setVm vm₁, locs, cells, slots⟩ (Value.ref b :: argsL).toArray q B ∧
      Steps p.tables e below (T.setTop g) ((B.U.setTop { g with stack := rest }).pushFrame (.throwing q))) := by
  obtain ⟨mk, methM, hnamed, hmethM, hstM, habM⟩ := Cond.instanceMethod_spec hinst
  obtain ⟨methM', cM, hmethM', -, -, -, -, -, -, hsigM⟩ := Cond.code_spec hnamed hcode
  cases hmethM.symm.trans hmethM'
  obtain ⟨c2, r2, m2, q1, q2, q3, q4, kP, hkP, hkPi⟩ := Cond.selects_spec hsel
  cases hcls.symm.trans q1
  cases (State.methodFound?_of_named hnamed hy).symm.trans q2
  cases hnamed.symm.trans q3
  have hselP : selectMethod e.platform s.vm cellB.cls mk = .method mk := by rw [Launch.admits_selectMethod X.admits]; exact q4
  obtain ⟨vm₁, X₁, hstep₁⟩ := X.invokevirtual hexec hown hlink hnamed hmethM hstM hkP hkPi hy (a := b) (cell := cellB) hcell
    (fun z h => by rw [h] at hobj; cases hobj) hselP hmethM habM hkP hkPi (g := g) hg (argsL := argsL) (rest := rest) (hlen _ hsigM) hstack hdg
  rcases hK m meth c ⟨T.setVm vm₁, locs, cells, slots⟩ { g with stack := rest } (.invokevirtual index) mk (Value.ref b :: argsL).toArray X₁ hg hsize hdg hW (X₁.named hnamed) (hpre vm₁ X₁.warmed) with ⟨v, B, X', hpost, hsteps⟩ | ⟨q, B, X', hpost, hsteps⟩
  · exact Or.inl ⟨v, vm₁, B, X₁.warmed, X', hpost, fun target h => hstep₁ _ fun acts => by rw [doInvoke_state]; exact hsteps.trans h⟩
  · exact Or.inr ⟨q, vm₁, B, X₁.warmed, X', hpost, hstep₁ _ fun acts => by rw [doInvoke_state]; exact hsteps⟩
theorem vx_callS (X : Stand p l e R s m args below meth c T locs cells slots) (hexec : p.tables.exec = Jvm.exec) {own : String} {index : Nat} {y : MethodName} {bytes : ByteArray} {maxL : Nat} {ret : Option FieldType}
    (hown : s.vm.findClass own = some m.cls) (hlink : (Cond.methodLink own index y).before args s = true) (hstat : (Cond.static y).before args s = true) (hinit : (Cond.initialized y.cls).before args s = true)
    (hcode : (Cond.code y bytes maxL ret).before args s = true) (hy : y.cls ≠ "java/lang/invoke/MethodHandle" ∧ y.cls ≠ "java/lang/invoke/VarHandle")
    {W9 : Nat} {Pre : Pt → Array Value → Prop} {Post : Pt → Array Value → Option Value → Pt → Prop} {PostX : Pt → Array Value → Addr → Pt → Prop} (hK : vx_Back l R p e below s args y 3 W9 Pre Post PostX)
    {g : JFrame} (hg : g.method = m) (hsize : g.locals.size = c.maxLocals) {argsL rest : List Value} (hlen : ∀ sig, parseMethodDescriptor y.desc = some sig → argsL.length = sig.parameters.length)
    (hstack : g.stack = argsL.reverse ++ rest) (hW : 2 * g.monitorRoom + (rest.map fun v => v.category).sum ≤ W9) (hdg : decode c.code g.pc = .ok (.invokestatic index, 3))
    (hpre : ∀ vm₁, s.WarmedH vm₁ → Pre ⟨T.setVm vm₁, locs, cells, slots⟩ argsL.toArray) :
    (∃ (v : Option Value) (vm₁ : Vm) (B : Pt), s.WarmedH vm₁ ∧ Stand p l e R s m args below meth c B.U B.locs B.cells B.slots ∧ Post ⟨T.setVm vm₁, locs, cells, slots⟩ argsL.toArray v B ∧
      ∀ target, Steps p.tables e below (B.U.setTop { g with pc := g.pc + 3, stack := v.toList ++ rest }) target → Steps p.tables e below (T.setTop g) target) ∨
    (∃ (q : Addr) (vm₁ : Vm) (B : Pt), s.WarmedH vm₁ ∧ Stand p l e R s m args below meth c B.U B.locs B.cells B.slots ∧ PostX ⟨T.setVm vm₁, locs, cells, slots⟩ argsL.toArray q B ∧
      Steps p.tables e below (T.setTop g) ((B.U.setTop { g with stack := rest }).pushFrame (.throwing q))) := by
  obtain ⟨mk, hnamed⟩ := Cond.code_named hcode
  obtain ⟨methM, cM, hmethM, -, -, -, -, -, -, hsigM⟩ := Cond.code_spec hnamed hcode
  have hstatic : methM.isStatic = true := Cond.static_spec hnamed hmethM hstat
  obtain ⟨kP, hkP, -⟩ := className_of_methodNamed hnamed
  have hinitP : kP.init = .initialized := Cond.initialized_spec (findClass_of_methodNamed hnamed) hkP hinit
  obtain ⟨vm₁, X₁, hstep₁⟩ := X.invokestatic hexec hown hlink hnamed hmethM hstatic hkP hinitP hy (g := g) hg (argsL := argsL) (rest := rest) (hlen _ hsigM) hstack hdg
  rcases hK m meth c ⟨T.setVm vm₁, locs, cells, slots⟩ { g with stack := rest } (.invokestatic index) mk argsL.toArray X₁ hg hsize hdg hW (X₁.named hnamed) (hpre vm₁ X₁.warmed) with ⟨v, B, X', hpost, hsteps⟩ | ⟨q, B, X', hpost, hsteps⟩
  · exact Or.inl ⟨v, vm₁, B, X₁.warmed, X', hpost, fun target h => hstep₁ _ fun acts => by rw [doInvoke_state]; exact hsteps.trans h⟩
  · exact Or.inr ⟨q, vm₁, B, X₁.warmed, X', hpost, hstep₁ _ fun acts => by rw [doInvoke_state]; exact hsteps⟩
end Calls
theorem vx_cls {s : State} {T : State} {vm₁ : Vm} {E : String} {k : ClassId} (hW : s.WarmedH vm₁) (h : (T.setVm vm₁).vm.findClass E = some k) : s.vm.findClass E = some k := by
  have h1 : vm₁.findClass E = some k := h
  rw [hW.alike.findClass] at h1
  exact h1
/-- the method's frame g, with q thrown over it -/
def vx_W (p : Program) (l : Launch) (e : Env) (R : Room) (s : State) (m : MethodId) (args : Array Value) (below : List Frame) (meth : Method) (c : Code) (H : Heap) (locs : List Loc) (cells slots : Nat) (Q : State → Prop) (g : JFrame) (q : Addr) : Prop :=
  ∀ T : State, T.heap = H → Stand p l e R s m args below meth c T locs cells slots → ∃ t, Steps p.tables e below ((T.setTop g).pushFrame (.throwing q)) t ∧ Q t
def vx_Run (p : Program) (l : Launch) (e : Env) (R : Room) (s : State) (m : MethodId) (args : Array Value) (below : List Frame) (meth : Method) (c : Code) (H : Heap) (locs : List Loc) (cells slots mc ms : Nat) (g : JFrame) (rest : List Value) (Qa : State → Outcome → State → Prop) (XC : String → State → State → Prop) (free : Addr → Prop) : Prop :=
  ∀ T : State, T.heap = H → Stand p l e R s m args below meth c T locs cells slots →
    (∃ (v : Option Value) (st₀ t T' : State) (L : List Loc), st₀.heap = H ∧ Stand p l e R s m args below meth c T' (locs ++ L) (cells + mc) (slots + ms) ∧ (∀ q ∈ L, free q.base) ∧ T'.heap = t.heap ∧ T'.vm = t.vm ∧ Qa st₀ (.returned v) t ∧
      Goes p e below T g T' { g with pc := g.pc + 3, stack := v.toList ++ rest }) ∨
    (∃ (q : Addr) (st₀ t T' : State) (L : List Loc) (E : String) (ce : Cell), st₀.heap = H ∧ Stand p l e R s m args below meth c T' (locs ++ L) (cells + mc) (slots + ms) ∧ (∀ z ∈ L, free z.base) ∧ T'.heap = t.heap ∧ T'.vm = t.vm ∧ XC E st₀ t ∧ t.heap[q]? = some ce ∧ ce.vm = .none ∧ s.vm.findClass E = some ce.cls ∧
      Steps p.tables e below (T.setTop g) ((T'.setTop { g with stack := rest }).pushFrame (.throwing q)))
def vx_X {S : Type} (px : S → Prop) (B : String → S → State → Prop) (A : Nat → Prop) : String → State → State → Prop := fun E st t => ∃ u : S, px u ∧ B E u t ∧ va_F A st t
section Runs
variable {p : Program} {l : Launch} {e : Env} {R : Room} {s : State} {m : MethodId} {args : Array Value} {below : List Frame} {meth : Method} {c : Code} {H : Heap} {locs : List Loc} {cells slots : Nat}
variable {y : MethodName} {bytes cc : ByteArray} {maxL nL mc ms n index : Nat} {ret : Option FieldType} {ws : List Cond} {rm : Room} {Pc : Array Value → State → Prop} {Qc : Array Value → State → Outcome → State → Prop} {XC : String → State → State → Prop} {free : Addr → Prop} {Ts : List Cond} {own C : String} {b : Addr} {As rest : List Value} {g : JFrame}
theorem vx_callBack (cb : CallB R s args own index y bytes maxL ret ws rm mc ms n) (hM : vx_Met l y ws rm Pc Qc XC mc ms free) (hbl : FrameBlind Pc) : vx_Back l R p e below s args y 3 8 (PreOf R mc ms Pc) (PostOf Qc mc ms free) (vx_Post XC mc ms free) := by
  obtain ⟨hrc, hrs, hfr, hlo, hws, hcw, -, hini, -⟩ := cb
  exact vx_back (bytes := bytes) (maxL := maxL) (ret := ret) hM hbl hrc hrs hfr hlo hws hcw (fun a' U hW => word_at hW (Or.inl (by first | rfl | simp [Cond.onTables, Cond.keeps, Cond.steady])) hini)
theorem vx_runV (S : CallFix p m c cc nL s args Ts own) (hM : vx_Met l y ws rm Pc Qc XC mc ms free) (cw : CallW R s args own C index y bytes maxL ret ws rm mc ms n) (hp : PreV s H C b Pc As)
    (hg : g.method = m) (hn : As.length = n) (hsize : g.locals.size = nL) (hstack : g.stack = As.reverse ++ .ref b :: rest) (hW : 2 * g.monitorRoom + (rest.map fun v => v.category).sum ≤ 8) (hdg : decode cc g.pc = .ok (.invokevirtual index, 3)) (hf : cells + mc ≤ R.cells ∧ slots + ms ≤ R.slots) :
    vx_Run p l e R s m args below meth c H locs cells slots mc ms g rest (Qc (Value.ref b :: As).toArray) XC free := by
  have hK : vx_Back l R p e below s args y 3 8 (PreOf R mc ms Pc) (PostOf Qc mc ms free) (vx_Post XC mc ms free) := vx_callBack cw.1 hM hp.1
  obtain ⟨⟨-, -, -, -, -, -, hcode, -, hy, hlen, hl⟩, hin, hse⟩ := cw
  obtain ⟨hx, hb, hml, ho, -⟩ := S
  obtain ⟨-, ⟨cellB, hcB, hoB, hclB⟩, hPc⟩ := hp
  intro T hT X
  rcases vx_callV X hx (C := C) (bytes := bytes) (maxL := maxL) (ret := ret) ho hl hin hse hcode hy hK (by rw [hT]; exact hcB) hoB hclB hg (hsize.trans hml.symm) (argsL := As) (rest := rest) (fun sig h => hn.trans (hlen sig h)) hstack hW (by rw [hb]; exact hdg)
    (fun vm₁ hW₁ => ⟨hf.1, hf.2, hPc (T.setVm vm₁) hT hW₁⟩) with ⟨v, vm₁, ⟨U', l2, c2, s2⟩, hW₁, X', ⟨g', mk, t, L, e1, e2, hq, h1, hL, h2, h3⟩, st⟩ | ⟨q, vm₁, ⟨U', l2, c2, s2⟩, hW₁, X', ⟨g', mk, t, L, E, ce, e1, e2, hq, hce, hcv, hcl, h1, hL, h2, h3⟩, st⟩
  · dsimp only [Pt.U, Pt.locs, Pt.cells, Pt.slots] at X' e1 e2 h1 h2 h3 st
    subst h1; subst h2; subst h3
    exact Or.inl ⟨v, (T.setVm vm₁).calling g' mk (Value.ref b :: As).toArray, t, U', L, hT, X', hL, e1, e2, hq, st⟩
  · dsimp only [Pt.U, Pt.locs, Pt.cells, Pt.slots] at X' e1 e2 h1 h2 h3 st hcl
    subst h1; subst h2; subst h3
    exact Or.inr ⟨q, (T.setVm vm₁).calling g' mk (Value.ref b :: As).toArray, t, U', L, E, ce, hT, X', hL, e1, e2, hq, hce, hcv, vx_cls hW₁ hcl, st⟩
theorem vx_runS (S : CallFix p m c cc nL s args Ts own) (hM : vx_Met l y ws rm Pc Qc XC mc ms free) (cw : CallB R s args own index y bytes maxL ret ws rm mc ms n ∧ (Cond.static y).before args s = true) (hp : PreS s H Pc As)
    (hg : g.method = m) (hn : As.length = n) (hsize : g.locals.size = nL) (hstack : g.stack = As.reverse ++ rest) (hW : 2 * g.monitorRoom + (rest.map fun v => v.category).sum ≤ 8) (hdg : decode cc g.pc = .ok (.invokestatic index, 3)) (hf : cells + mc ≤ R.cells ∧ slots + ms ≤ R.slots) :
    vx_Run p l e R s m args below meth c H locs cells slots mc ms g rest (Qc As.toArray) XC free := by
  have hK : vx_Back l R p e below s args y 3 8 (PreOf R mc ms Pc) (PostOf Qc mc ms free) (vx_Post XC mc ms free) := vx_callBack cw.1 hM hp.1
  obtain ⟨⟨-, -, -, -, -, -, hcode, hini, hy, hlen, hl⟩, hstt⟩ := cw
  obtain ⟨hx, hb, hml, ho, -⟩ := S
  intro T hT X
  rcases vx_callS X hx (bytes := bytes) (maxL := maxL) (ret := ret) ho hl hstt hini hcode hy hK hg (hsize.trans hml.symm) (argsL := As) (rest := rest) (fun sig h => hn.trans (hlen sig h)) hstack hW (by rw [hb]; exact hdg)
    (fun vm₁ hW₁ => ⟨hf.1, hf.2, hp.2 (T.setVm vm₁) hT hW₁⟩) with ⟨v, vm₁, ⟨U', l2, c2, s2⟩, hW₁, X', ⟨g', mk, t, L, e1, e2, hq, h1, hL, h2, h3⟩, st⟩ | ⟨q, vm₁, ⟨U', l2, c2, s2⟩, hW₁, X', ⟨g', mk, t, L, E, ce, e1, e2, hq, hce, hcv, hcl, h1, hL, h2, h3⟩, st⟩
  · dsimp only [Pt.U, Pt.locs, Pt.cells, Pt.slots] at X' e1 e2 h1 h2 h3 st
    subst h1; subst h2; subst h3
    exact Or.inl ⟨v, (T.setVm vm₁).calling g' mk As.toArray, t, U', L, hT, X', hL, e1, e2, hq, st⟩
  · dsimp only [Pt.U, Pt.locs, Pt.cells, Pt.slots] at X' e1 e2 h1 h2 h3 st hcl
    subst h1; subst h2; subst h3
    exact Or.inr ⟨q, (T.setVm vm₁).calling g' mk As.toArray, t, U', L, E, ce, hT, X', hL, e1, e2, hq, hce, hcv, vx_cls hW₁ hcl, st⟩
end Runs
section Rows
variable {p : Program} {l : Launch} {e : Env} {R : Room} {s : State} {m : MethodId} {args : Array Value} {below : List Frame} {meth : Method} {c : Code} {H : Heap} {locs : List Loc} {cells slots : Nat} {Q : State → Prop}
variable {mc ms : Nat} {free : Addr → Prop} {A0 A1 : Nat → Prop} {H0 : Heap} {a : Array Value} {pc : Nat} {ls : Array Slot} {st0 rest : List Value}
theorem vx_keep {st₀ t T' : State} {L : List Loc} (h0 : st₀.heap = H) (e1 : T'.heap = t.heap) (hS : va_S A0 H0 H locs) (hA : ∀ q, q < H.size → A1 q → A0 q) (hf : ∀ q, free q → A0 q) (hL : ∀ q ∈ L, free q.base) (hF : va_F A1 st₀ t) :
    H.size ≤ T'.heap.size ∧ (∀ q : Nat, q < H.size → ¬ A1 q → T'.heap[q]? = H[q]?) ∧ va_S A0 H0 T'.heap (locs ++ L) := by
  obtain ⟨hz, hk⟩ := hF
  rw [h0] at hz hk
  exact ⟨by rw [e1]; exact hz, fun q h1 h2 => by rw [e1]; exact hk q h1 h2,
    ⟨Nat.le_trans hS.1 (by rw [e1]; exact hz), fun q h1 h2 => by rw [e1, hk q (Nat.lt_of_lt_of_le h1 hS.1) (fun z => h2 (hA q (Nat.lt_of_lt_of_le h1 hS.1) z))]; exact hS.2.1 q h1 h2, fun q hq => by
      rcases List.mem_append.mp hq with h | h
      · exact hS.2.2 q h
      · exact hf _ (hL q h)⟩⟩
theorem vx_calli {S SX : Type} {post : Int32 → S → Prop} {px : SX → Prop} {B : S → State → Prop} {BX : String → SX → State → Prop} {AX : Nat → Prop} (hr : vx_Run p l e R s m args below meth c H locs cells slots mc ms (F0 m pc ls st0) rest (va_Qi post B A1 a) (vx_X px BX AX) free) (hS : va_S A0 H0 H locs) (hA : ∀ q, q < H.size → A1 q → A0 q) (hf : ∀ q, free q → A0 q) (hAX : ∀ q, q < H.size → AX q → A0 q)
    (kx : ∀ (E : String) (ce : Cell) (q9 : Addr) (u : SX) (t : State) (H1 : Heap) (locs1 : List Loc), t.heap = H1 → s.vm.Alike t.vm → px u → BX E u t → H.size ≤ H1.size → (∀ q : Nat, q < H.size → ¬ AX q → H1[q]? = H[q]?) → va_S A0 H0 H1 locs1 → H1[q9]? = some ce → ce.vm = .none → s.vm.findClass E = some ce.cls → vx_W p l e R s m args below meth c H1 locs1 (cells + mc) (slots + ms) Q (F0 m pc ls rest) q9)
    (kk : ∀ (r : Int32) (u : S) (t : State) (H1 : Heap) (locs1 : List Loc), t.heap = H1 → s.vm.Alike t.vm → post r u → B u t → H.size ≤ H1.size → (∀ q : Nat, q < H.size → ¬ A1 q → H1[q]? = H[q]?) → va_S A0 H0 H1 locs1 → W p l e R s m args below meth c H1 locs1 (cells + mc) (slots + ms) Q (F0 m (pc + 3) ls (.int r :: rest))) : W p l e R s m args below meth c H locs cells slots Q (F0 m pc ls st0) := by
  intro T hT X
  rcases hr T hT X with ⟨v, st₀, t, T', L, h0, X', hL, e1, e2, ⟨⟨r, u, hv, hp, hb⟩, hF⟩, st⟩ | ⟨q, st₀, t, T', L, E, ce, h0, X', hL, e1, e2, ⟨u, hp, hb, hF⟩, hce, hcv, hcl, st⟩
  · cases hv
    obtain ⟨k1, k2, k3⟩ := vx_keep h0 e1 hS hA hf hL hF
    obtain ⟨t2, a1, b1⟩ := kk r u t T'.heap (locs ++ L) e1.symm (by rw [← e2]; exact X'.warmed.alike) hp hb k1 k2 k3 T' rfl X'
    exact ⟨t2, st t2 a1, b1⟩
  · obtain ⟨k1, k2, k3⟩ := vx_keep h0 e1 hS hAX hf hL hF
    obtain ⟨t2, a1, b1⟩ := kx E ce q u t T'.heap (locs ++ L) e1.symm (by rw [← e2]; exact X'.warmed.alike) hp hb k1 k2 k3 (by rw [e1]; exact hce) hcv hcl T' rfl X'
    exact ⟨t2, st.trans a1, b1⟩
theorem vx_calll {S SX : Type} {post : Int64 → S → Prop} {px : SX → Prop} {B : S → State → Prop} {BX : String → SX → State → Prop} {AX : Nat → Prop} (hr : vx_Run p l e R s m args below meth c H locs cells slots mc ms (F0 m pc ls st0) rest (va_Ql post B A1 a) (vx_X px BX AX) free) (hS : va_S A0 H0 H locs) (hA : ∀ q, q < H.size → A1 q → A0 q) (hf : ∀ q, free q → A0 q) (hAX : ∀ q, q < H.size → AX q → A0 q)
    (kx : ∀ (E : String) (ce : Cell) (q9 : Addr) (u : SX) (t : State) (H1 : Heap) (locs1 : List Loc), t.heap = H1 → s.vm.Alike t.vm → px u → BX E u t → H.size ≤ H1.size → (∀ q : Nat, q < H.size → ¬ AX q → H1[q]? = H[q]?) → va_S A0 H0 H1 locs1 → H1[q9]? = some ce → ce.vm = .none → s.vm.findClass E = some ce.cls → vx_W p l e R s m args below meth c H1 locs1 (cells + mc) (slots + ms) Q (F0 m pc ls rest) q9)
    (kk : ∀ (r : Int64) (u : S) (t : State) (H1 : Heap) (locs1 : List Loc), t.heap = H1 → s.vm.Alike t.vm → post r u → B u t → H.size ≤ H1.size → (∀ q : Nat, q < H.size → ¬ A1 q → H1[q]? = H[q]?) → va_S A0 H0 H1 locs1 → W p l e R s m args below meth c H1 locs1 (cells + mc) (slots + ms) Q (F0 m (pc + 3) ls (.long r :: rest))) : W p l e R s m args below meth c H locs cells slots Q (F0 m pc ls st0) := by
  intro T hT X
  rcases hr T hT X with ⟨v, st₀, t, T', L, h0, X', hL, e1, e2, ⟨⟨r, u, hv, hp, hb⟩, hF⟩, st⟩ | ⟨q, st₀, t, T', L, E, ce, h0, X', hL, e1, e2, ⟨u, hp, hb, hF⟩, hce, hcv, hcl, st⟩
  · cases hv
    obtain ⟨k1, k2, k3⟩ := vx_keep h0 e1 hS hA hf hL hF
    obtain ⟨t2, a1, b1⟩ := kk r u t T'.heap (locs ++ L) e1.symm (by rw [← e2]; exact X'.warmed.alike) hp hb k1 k2 k3 T' rfl X'
    exact ⟨t2, st t2 a1, b1⟩
  · obtain ⟨k1, k2, k3⟩ := vx_keep h0 e1 hS hAX hf hL hF
    obtain ⟨t2, a1, b1⟩ := kx E ce q u t T'.heap (locs ++ L) e1.symm (by rw [← e2]; exact X'.warmed.alike) hp hb k1 k2 k3 (by rw [e1]; exact hce) hcv hcl T' rfl X'
    exact ⟨t2, st.trans a1, b1⟩
theorem vx_callf {S SX : Type} {post : UInt32 → S → Prop} {px : SX → Prop} {B : S → State → Prop} {BX : String → SX → State → Prop} {AX : Nat → Prop} (hr : vx_Run p l e R s m args below meth c H locs cells slots mc ms (F0 m pc ls st0) rest (va_Qf post B A1 a) (vx_X px BX AX) free) (hS : va_S A0 H0 H locs) (hA : ∀ q, q < H.size → A1 q → A0 q) (hf : ∀ q, free q → A0 q) (hAX : ∀ q, q < H.size → AX q → A0 q)
    (kx : ∀ (E : String) (ce : Cell) (q9 : Addr) (u : SX) (t : State) (H1 : Heap) (locs1 : List Loc), t.heap = H1 → s.vm.Alike t.vm → px u → BX E u t → H.size ≤ H1.size → (∀ q : Nat, q < H.size → ¬ AX q → H1[q]? = H[q]?) → va_S A0 H0 H1 locs1 → H1[q9]? = some ce → ce.vm = .none → s.vm.findClass E = some ce.cls → vx_W p l e R s m args below meth c H1 locs1 (cells + mc) (slots + ms) Q (F0 m pc ls rest) q9)
    (kk : ∀ (r : UInt32) (u : S) (t : State) (H1 : Heap) (locs1 : List Loc), t.heap = H1 → s.vm.Alike t.vm → post r u → B u t → H.size ≤ H1.size → (∀ q : Nat, q < H.size → ¬ A1 q → H1[q]? = H[q]?) → va_S A0 H0 H1 locs1 → W p l e R s m args below meth c H1 locs1 (cells + mc) (slots + ms) Q (F0 m (pc + 3) ls (.float r :: rest))) : W p l e R s m args below meth c H locs cells slots Q (F0 m pc ls st0) := by
  intro T hT X
  rcases hr T hT X with ⟨v, st₀, t, T', L, h0, X', hL, e1, e2, ⟨⟨r, u, hv, hp, hb⟩, hF⟩, st⟩ | ⟨q, st₀, t, T', L, E, ce, h0, X', hL, e1, e2, ⟨u, hp, hb, hF⟩, hce, hcv, hcl, st⟩
  · cases hv
    obtain ⟨k1, k2, k3⟩ := vx_keep h0 e1 hS hA hf hL hF
    obtain ⟨t2, a1, b1⟩ := kk r u t T'.heap (locs ++ L) e1.symm (by rw [← e2]; exact X'.warmed.alike) hp hb k1 k2 k3 T' rfl X'
    exact ⟨t2, st t2 a1, b1⟩
  · obtain ⟨k1, k2, k3⟩ := vx_keep h0 e1 hS hAX hf hL hF
    obtain ⟨t2, a1, b1⟩ := kx E ce q u t T'.heap (locs ++ L) e1.symm (by rw [← e2]; exact X'.warmed.alike) hp hb k1 k2 k3 (by rw [e1]; exact hce) hcv hcl T' rfl X'
    exact ⟨t2, st.trans a1, b1⟩
theorem vx_calld {S SX : Type} {post : UInt64 → S → Prop} {px : SX → Prop} {B : S → State → Prop} {BX : String → SX → State → Prop} {AX : Nat → Prop} (hr : vx_Run p l e R s m args below meth c H locs cells slots mc ms (F0 m pc ls st0) rest (va_Qd post B A1 a) (vx_X px BX AX) free) (hS : va_S A0 H0 H locs) (hA : ∀ q, q < H.size → A1 q → A0 q) (hf : ∀ q, free q → A0 q) (hAX : ∀ q, q < H.size → AX q → A0 q)
    (kx : ∀ (E : String) (ce : Cell) (q9 : Addr) (u : SX) (t : State) (H1 : Heap) (locs1 : List Loc), t.heap = H1 → s.vm.Alike t.vm → px u → BX E u t → H.size ≤ H1.size → (∀ q : Nat, q < H.size → ¬ AX q → H1[q]? = H[q]?) → va_S A0 H0 H1 locs1 → H1[q9]? = some ce → ce.vm = .none → s.vm.findClass E = some ce.cls → vx_W p l e R s m args below meth c H1 locs1 (cells + mc) (slots + ms) Q (F0 m pc ls rest) q9)
    (kk : ∀ (r : UInt64) (u : S) (t : State) (H1 : Heap) (locs1 : List Loc), t.heap = H1 → s.vm.Alike t.vm → post r u → B u t → H.size ≤ H1.size → (∀ q : Nat, q < H.size → ¬ A1 q → H1[q]? = H[q]?) → va_S A0 H0 H1 locs1 → W p l e R s m args below meth c H1 locs1 (cells + mc) (slots + ms) Q (F0 m (pc + 3) ls (.double r :: rest))) : W p l e R s m args below meth c H locs cells slots Q (F0 m pc ls st0) := by
  intro T hT X
  rcases hr T hT X with ⟨v, st₀, t, T', L, h0, X', hL, e1, e2, ⟨⟨r, u, hv, hp, hb⟩, hF⟩, st⟩ | ⟨q, st₀, t, T', L, E, ce, h0, X', hL, e1, e2, ⟨u, hp, hb, hF⟩, hce, hcv, hcl, st⟩
  · cases hv
    obtain ⟨k1, k2, k3⟩ := vx_keep h0 e1 hS hA hf hL hF
    obtain ⟨t2, a1, b1⟩ := kk r u t T'.heap (locs ++ L) e1.symm (by rw [← e2]; exact X'.warmed.alike) hp hb k1 k2 k3 T' rfl X'
    exact ⟨t2, st t2 a1, b1⟩
  · obtain ⟨k1, k2, k3⟩ := vx_keep h0 e1 hS hAX hf hL hF
    obtain ⟨t2, a1, b1⟩ := kx E ce q u t T'.heap (locs ++ L) e1.symm (by rw [← e2]; exact X'.warmed.alike) hp hb k1 k2 k3 (by rw [e1]; exact hce) hcv hcl T' rfl X'
    exact ⟨t2, st.trans a1, b1⟩
theorem vx_callv {S SX : Type} {post : S → Prop} {px : SX → Prop} {B : S → State → Prop} {BX : String → SX → State → Prop} {AX : Nat → Prop} (hr : vx_Run p l e R s m args below meth c H locs cells slots mc ms (F0 m pc ls st0) rest (va_Qv post B A1 a) (vx_X px BX AX) free) (hS : va_S A0 H0 H locs) (hA : ∀ q, q < H.size → A1 q → A0 q) (hf : ∀ q, free q → A0 q) (hAX : ∀ q, q < H.size → AX q → A0 q)
    (kx : ∀ (E : String) (ce : Cell) (q9 : Addr) (u : SX) (t : State) (H1 : Heap) (locs1 : List Loc), t.heap = H1 → s.vm.Alike t.vm → px u → BX E u t → H.size ≤ H1.size → (∀ q : Nat, q < H.size → ¬ AX q → H1[q]? = H[q]?) → va_S A0 H0 H1 locs1 → H1[q9]? = some ce → ce.vm = .none → s.vm.findClass E = some ce.cls → vx_W p l e R s m args below meth c H1 locs1 (cells + mc) (slots + ms) Q (F0 m pc ls rest) q9)
    (kk : ∀ (u : S) (t : State) (H1 : Heap) (locs1 : List Loc), t.heap = H1 → s.vm.Alike t.vm → post u → B u t → H.size ≤ H1.size → (∀ q : Nat, q < H.size → ¬ A1 q → H1[q]? = H[q]?) → va_S A0 H0 H1 locs1 → W p l e R s m args below meth c H1 locs1 (cells + mc) (slots + ms) Q (F0 m (pc + 3) ls (rest))) : W p l e R s m args below meth c H locs cells slots Q (F0 m pc ls st0) := by
  intro T hT X
  rcases hr T hT X with ⟨v, st₀, t, T', L, h0, X', hL, e1, e2, ⟨⟨u, hv, hp, hb⟩, hF⟩, st⟩ | ⟨q, st₀, t, T', L, E, ce, h0, X', hL, e1, e2, ⟨u, hp, hb, hF⟩, hce, hcv, hcl, st⟩
  · cases hv
    obtain ⟨k1, k2, k3⟩ := vx_keep h0 e1 hS hA hf hL hF
    obtain ⟨t2, a1, b1⟩ := kk u t T'.heap (locs ++ L) e1.symm (by rw [← e2]; exact X'.warmed.alike) hp hb k1 k2 k3 T' rfl X'
    exact ⟨t2, st t2 a1, b1⟩
  · obtain ⟨k1, k2, k3⟩ := vx_keep h0 e1 hS hAX hf hL hF
    obtain ⟨t2, a1, b1⟩ := kx E ce q u t T'.heap (locs ++ L) e1.symm (by rw [← e2]; exact X'.warmed.alike) hp hb k1 k2 k3 (by rw [e1]; exact hce) hcv hcl T' rfl X'
    exact ⟨t2, st.trans a1, b1⟩
/-- caught by the row x of this method's table; the rows ahead don't take it -/
theorem vx_catch {own name : String} {E : String} {ce : Cell} {q : Addr} (hown : s.vm.findClass own = some m.cls) (pre : List ExceptionTableEntry) (x : ExceptionTableEntry) (suf : List ExceptionTableEntry) (hsplit : c.exceptionTable.toList = pre ++ x :: suf)
    (hpass : ∀ z ∈ pre, covers z pc = false ∨ (z.catchType ≠ 0 ∧ ∃ nm : String, (Cond.classLink own z.catchType nm).before args s = true ∧ va_Nc E nm s)) (hx : covers x pc = true) (h0 : x.catchType ≠ 0)
    (hlink : (Cond.classLink own x.catchType name).before args s = true) (hcast : (Cond.castable E name).before args s = true) (hcell : H[q]? = some ce) (hv : ce.vm = .none) (hcl : s.vm.findClass E = some ce.cls)
    (kk : W p l e R s m args below meth c H locs cells slots Q (F0 m x.handlerPc ls [.ref q])) : vx_W p l e R s m args below meth c H locs cells slots Q (F0 m pc ls rest) q := by
  intro T hT X
  have hpl : e.platform.magicAccessors = ({} : Platform).magicAccessors := by rw [X.admits.platform]
  obtain ⟨c3, c4, hc3, hc4, hasg⟩ := Cond.castable_spec hcast
  cases Option.some.inj (hc3.symm.trans hcl)
  obtain ⟨c5, hc5, hcl5⟩ := Cond.classLink_spec hown hlink e.platform hpl
  cases Option.some.inj (hc4.symm.trans hc5)
  obtain ⟨vm', X', st⟩ := X.thenCaughtThrough q (g := F0 m pc ls rest) rfl (Steps.refl _) (by rw [hT]; exact hcell) (by rw [hv]; rfl) (by obtain ⟨k9, h9, -⟩ := Vm.findClass_spec hcl; exact ⟨k9, h9⟩) pre x suf hsplit
    (fun z hz => by
      rcases hpass z hz with h | ⟨hz0, nm, hl1, hn1⟩
      · exact Or.inl h
      · obtain ⟨c6, hc6, hcl6⟩ := Cond.classLink_spec hown hl1 e.platform hpl
        obtain ⟨a8, b8, h1, h2, h3⟩ := hn1
        cases Option.some.inj (h1.symm.trans hcl)
        cases Option.some.inj (h2.symm.trans hc6)
        exact Or.inr ⟨hz0, _, hcl6, h3⟩) hx (Or.inr ⟨h0, c4, hcl5, hasg⟩)
  obtain ⟨t, a1, b1⟩ := kk (T.setVm vm') hT X'
  exact ⟨t, st.trans a1, b1⟩
end Rows
section Ends
variable {p : Program} {l : Launch} {e : Env} {R : Room} {s : State} {m : MethodId} {args : Array Value} {below : List Frame} {meth : Method} {c : Code} {H : Heap} {locs : List Loc} {cells slots : Nat} {Q : State → Prop}
variable {mc ms : Nat} {free : Addr → Prop} {A0 A1 : Nat → Prop} {H0 : Heap} {a : Array Value} {ls : Array Slot} {st0 rest : List Value}
variable {Qc : Array Value → State → Outcome → State → Prop} {XC : String → State → State → Prop}
/-- what a body that may throw owes at its end -/
def vx_MQ (below : List Frame) (Qc : Array Value → State → Outcome → State → Prop) (XC : String → State → State → Prop) (a : Array Value) (s : State) (mc ms : Nat) (free : Addr → Prop) : State → Prop := fun t =>
  ∃ o, t.status = .running ∧ Ended t below o ∧ vx_Q Qc XC mc ms free a s o t
theorem vx_ret {g : JFrame} {mc ms : Nat} (k : W p l e R s m args below meth c H locs cells slots (MQ below Qc args s mc ms free) g) : W p l e R s m args below meth c H locs cells slots (vx_MQ below Qc XC args s mc ms free) g := by
  intro T hT X
  obtain ⟨t, a1, o, b1, b2, b3, b4⟩ := k T hT X
  exact ⟨t, a1, o, b1, b2, Or.inl ⟨b3, b4⟩⟩
/-- not caught here: it goes on to the caller -/
theorem vx_widen {g : JFrame} {q : Addr} {k n : Nat} (h1 : cells ≤ k) (h2 : slots ≤ n) (kk : vx_W p l e R s m args below meth c H locs k n Q g q) : vx_W p l e R s m args below meth c H locs cells slots Q g q := fun T hT X => kk T hT (stand_widen X h1 h2)
theorem vx_out {pc : Nat} {E : String} {ce : Cell} {q : Addr} {mc ms : Nat} (hout : ∀ x ∈ c.exceptionTable.toList, covers x pc = false) (hlocks : meth.locks = false) (hcell : H[q]? = some ce) (hv : ce.vm = .none) (hcl : s.vm.findClass E = some ce.cls)
    (hx : ∀ t : State, t.heap = H → s.vm.Alike t.vm → XC E s t) (hf : ∀ z ∈ locs, free z.base) (hc : cells ≤ mc) (hs : slots ≤ ms) :
    vx_W p l e R s m args below meth c H locs cells slots (vx_MQ below Qc XC args s mc ms free) (F0 m pc ls rest) q := by
  intro T hT X
  obtain ⟨st1, hrun, hend, hW, hsm⟩ := X.leaveThrown q (g := F0 m pc ls rest) rfl rfl rfl hout hlocks
  have hcell9 : (T.setFrames (.throwing q :: below)).heap[q]? = some ce := by
    show T.heap[q]? = some ce
    rw [hT]; exact hcell
  exact ⟨_, st1, .threw q, hrun, hend, Or.inr ⟨q, rfl, E, ce, locs, hx _ hT hW.alike, hcell9, hv, hcl, hW, hsm.mono hc hs, hf⟩⟩
theorem vx_frame {U : State} {k n : Nat} (h : s.sameButNew ({ U with vm := s.vm } : State) locs k n) : s.heap.size ≤ U.heap.size ∧ ∀ q : Nat, q < s.heap.size → (∀ z ∈ locs, z.base ≠ q) → U.heap[q]? = s.heap[q]? := by
  obtain ⟨-, h2, -, -, -, h6⟩ := h
  refine ⟨h2, fun q hq hz => ?_⟩
  obtain ⟨c9, e1, e2, e3, e4⟩ := h6 q _ (Array.getElem?_eq_getElem hq)
  have hs : c9.slots = (s.heap[q]).slots := Array.ext_getElem? fun i => e4 i fun hm => hz _ hm rfl
  have h9 : c9 = s.heap[q] := by
    rw [hs] at e2
    exact e2
  have e5 : U.heap[q]? = some c9 := e1
  rw [e5, h9, Array.getElem?_eq_getElem hq]
/-- the words of a throw but the four that speak of the heap -/
def vx_no (w : Cond) : Bool := decide (w ≠ .isRef (.static Bundle.tN "UNASSIGNED_STACK" Bundle.steD)) && decide (w ≠ .isRef (.static Bundle.tN "SUPPRESSED_SENTINEL" Bundle.listD)) && decide (w ≠ .laysStatic Bundle.tN "UNASSIGNED_STACK" Bundle.steD) && decide (w ≠ .laysStatic Bundle.tN "SUPPRESSED_SENTINEL" Bundle.listD)
def vx_at0 (own : String) (ic : Nat) (X : String) (names : List String) : List Cond := (Bundle.ownAtoms0 own ic X names).filter vx_no
def vx_atS (own : String) (ic : Nat) (X : String) (names : List String) : List Cond := (Bundle.ownAtoms own ic X names).filter vx_no
/-- a word that the tables alone decide, or a good one -/
def vx_ot (w : Cond) : Bool := w.onTables || goodWord w
theorem vx_ot_at {args a' : Array Value} {s U : State} {w : Cond} (hW : s.WarmedH U.vm) (hvm : s.vm = U.vm) (hg : vx_ot w = true) (h : w.before args s = true) : w.before a' U = true := by
  simp only [vx_ot, Bool.or_eq_true] at hg
  rcases hg with hg | hg
  · exact va_tabs hg hvm h
  · exact word_at hW (good_of_word hg) h
/-- a list's words: the good ones out of the method's own list, the others by premises of their own -/
theorem vx_hat {args : Array Value} {s : State} {L B : List Cond} (h1 : ∀ w ∈ L.filter goodWord, w.before args s = true) (h2 : ∀ w ∈ L.filter (fun w => !goodWord w), w ∈ B) (h3 : ∀ w ∈ B, w.before args s = true) : ∀ w ∈ L, w.before args s = true := by
  intro w hw
  by_cases g : goodWord w = true
  · exact h1 w (List.mem_filter.mpr ⟨hw, g⟩)
  · refine h3 w (h2 w (List.mem_filter.mpr ⟨hw, ?_⟩))
    show (!goodWord w) = true
    cases hgw : goodWord w
    · rfl
    · exact absurd hgw g
theorem vx_c {args : Array Value} {s : State} {w : Cond} {B : List Cond} (h : w.before args s = true) (t : ∀ w ∈ B, w.before args s = true) : ∀ w' ∈ w :: B, w'.before args s = true := fun w' h' => (List.mem_cons.mp h').elim (fun e => by rw [e]; exact h) (t w')
theorem vx_n {args : Array Value} {s : State} : ∀ w ∈ ([] : List Cond), w.before args s = true := fun _ h => nomatch h
theorem vx_own {args : Array Value} {s : State} {L : List Cond} (h1 : ∀ w ∈ L.filter vx_no, w.before args s = true)
    (hU : (Cond.isRef (.static Bundle.tN "UNASSIGNED_STACK" Bundle.steD)).before args s = true) (hN : (Cond.isRef (.static Bundle.tN "SUPPRESSED_SENTINEL" Bundle.listD)).before args s = true)
    (lU : (Cond.laysStatic Bundle.tN "UNASSIGNED_STACK" Bundle.steD).before args s = true) (lN : (Cond.laysStatic Bundle.tN "SUPPRESSED_SENTINEL" Bundle.listD).before args s = true) : ∀ w ∈ L, w.before args s = true := by
  intro w hw
  by_cases e1 : w = .isRef (.static Bundle.tN "UNASSIGNED_STACK" Bundle.steD)
  · rw [e1]; exact hU
  · by_cases e2 : w = .isRef (.static Bundle.tN "SUPPRESSED_SENTINEL" Bundle.listD)
    · rw [e2]; exact hN
    · by_cases e3 : w = .laysStatic Bundle.tN "UNASSIGNED_STACK" Bundle.steD
      · rw [e3]; exact lU
      · by_cases e4 : w = .laysStatic Bundle.tN "SUPPRESSED_SENTINEL" Bundle.listD
        · rw [e4]; exact lN
        · exact h1 w (List.mem_filter.mpr ⟨hw, by unfold vx_no; rw [decide_eq_true e1, decide_eq_true e2, decide_eq_true e3, decide_eq_true e4]; rfl⟩)
/-- where a static field lies, its class's statics cell in H -/
def vx_L (C n d : String) (A : Nat → Prop) (U : State) (H : Heap) : Prop := ∃ (c : ClassId) (k : Class) (i : Nat) (f : Field) (a : Nat) (cell : Cell), U.vm.findClass C = some c ∧ U.fieldFound? C n d = some (c, k, i, f) ∧ f.isStatic = true ∧ k.statics = some a ∧ H[a]? = some cell ∧ cell.vm.isStatics = true ∧ cell.cls = c ∧ f.slot < cell.slots.size ∧ k.staticTypes[f.slot]? = some f.type ∧ ¬ A a
theorem vx_L.moved {C n d : String} {A : Nat → Prop} {u U : State} {H : Heap} (hvm : u.vm.Alike U.vm) (h : vx_L C n d A u H) : vx_L C n d A U H := by
  obtain ⟨c, k, i, f, a, cell, h1, h2, h3, h4, h5, h6, h7, h8, h9, h10⟩ := h
  obtain ⟨k', hi', he⟩ := State.fieldFound?_setVm hvm h2
  exact ⟨c, k', i, f, a, cell, by rw [hvm.findClass]; exact h1, hi', h3, by rw [he]; exact h4, h5, h6, h7, h8, by rw [he]; exact h9, h10⟩
theorem vx_L.kept {C n d : String} {A : Nat → Prop} {U : State} {H H1 : Heap} (h : vx_L C n d A U H) (hq : ∀ a : Nat, a < H.size → ¬ A a → H1[a]? = H[a]?) : vx_L C n d A U H1 := by
  obtain ⟨c, k, i, f, a, cell, h1, h2, h3, h4, h5, h6, h7, h8, h9, h10⟩ := h
  exact ⟨c, k, i, f, a, cell, h1, h2, h3, h4, by rw [hq a (Array.getElem?_eq_some_iff.mp h5).1 h10]; exact h5, h6, h7, h8, h9, h10⟩
theorem vx_L.narrow {C n d : String} {A B : Nat → Prop} {U : State} {H : Heap} (h : vx_L C n d A U H) (hAB : ∀ q, B q → A q) : vx_L C n d B U H := by
  obtain ⟨c, k, i, f, a, cell, h1, h2, h3, h4, h5, h6, h7, h8, h9, h10⟩ := h
  exact ⟨c, k, i, f, a, cell, h1, h2, h3, h4, h5, h6, h7, h8, h9, fun z => h10 (hAB _ z)⟩
theorem vx_L.word {C n d : String} {A : Nat → Prop} {s : State} {args : Array Value} (h : vx_L C n d A s s.heap) : (Cond.laysStatic C n d).before args s = true := by
  obtain ⟨c, k, i, f, a, cell, h1, h2, h3, h4, h5, h6, h7, h8, h9, -⟩ := h
  show (Cond.laysStatic C n d).holds args s none s [] = true
  exact Cond.laysStatic_of h1 h2 h3 h4 h5 h6 h7 h8 h9
/-- .. and what it holds: null or some reference -/
def vx_Zq (C n d : String) (A : Nat → Prop) (U : State) (H : Heap) : Prop := va_Zq C n d A U H ∧ vx_L C n d A U H
theorem vx_Zq.moved {C n d : String} {A : Nat → Prop} {u U : State} {H : Heap} (hvm : u.vm.Alike U.vm) (h : vx_Zq C n d A u H) : vx_Zq C n d A U H := ⟨va_Zq.moved hvm h.1, vx_L.moved hvm h.2⟩
theorem vx_Zq.kept {C n d : String} {A : Nat → Prop} {U : State} {H H1 : Heap} (h : vx_Zq C n d A U H) (hq : ∀ a : Nat, a < H.size → ¬ A a → H1[a]? = H[a]?) : vx_Zq C n d A U H1 := ⟨va_Zq.kept h.1 hq, vx_L.kept h.2 hq⟩
theorem vx_Zq.narrow {C n d : String} {A B : Nat → Prop} {U : State} {H : Heap} (h : vx_Zq C n d A U H) (hAB : ∀ q, B q → A q) : vx_Zq C n d B U H := ⟨va_Zq.narrow h.1 hAB, vx_L.narrow h.2 hAB⟩
theorem vx_Zqof {args : Array Value} {s : State} {C n d : String} {A : Nat → Prop} (hl : (Cond.laysStatic C n d).before args s = true) (hini : (Cond.initialized C).before args s = true) (h : (Cond.isRef (.static C n d)).before args s = true) (hA : ∀ a : Nat, a < s.heap.size → ¬ A a) : vx_Zq C n d A s s.heap := by
  refine ⟨va_Zqof hl hini h hA, ?_⟩
  obtain ⟨c, k, i, f, a, cell, h1, h2, h3, h4, h5, h6, h7, h8, h9⟩ := Cond.laysStatic_spec hl
  exact ⟨c, k, i, f, a, cell, h1, h2, h3, h4, h5, h6, h7, h8, h9, hA a (Array.getElem?_eq_some_iff.mp h5).1⟩
theorem vx_isRef {C n d : String} {v : Value} {A : Nat → Prop} {s : State} {args : Array Value} (h : va_Z C n d v A s s.heap) (hv : v.isRef = true) : (Cond.isRef (.static C n d)).before args s = true := by
  obtain ⟨cf, kf, fi, f, a, cell, h1, h2, h3, h4, h5, h6, h7, -⟩ := h
  have he : (Term.static C n d).eval args s none [] s = some v := by
    simp [Term.eval, State.fieldNamed?, h1, h2, h4, h5, h6, h7]
  simp only [Cond.before, Cond.holds, Cond.value, he]
  cases v <;> simp_all [Value.isRef]
theorem vx_isRefq {C n d : String} {A : Nat → Prop} {s : State} {args : Array Value} (h : va_Zq C n d A s s.heap) : (Cond.isRef (.static C n d)).before args s = true := by
  rcases h with h | ⟨t, h⟩
  · exact vx_isRef h rfl
  · exact vx_isRef h rfl
/-- the same frame, seen from here: as if the method were called anew in this heap -/
theorem vx_rebase {T : State} (X : Stand p l e R s m args below meth c T locs cells slots) {R' : Room} (hf : R'.frames ≤ R.frames) (hl : R'.locals ≤ R.locals) (hc : cells + R'.cells ≤ R.cells) (hs : slots + R'.slots ≤ R.slots) :
    Stand p l e R' ((T.setVm s.vm).setFrames (.invoking m args :: below)) m args below meth c T [] 0 0 := by
  have htop : (T.setVm s.vm).topJava?.isSome := X.here.top
  have hF : ((T.setVm s.vm).setFrames (.invoking m args :: below)).frames = .invoking m args :: below := State.frames_setFrames _ (State.cur_lt_of_top htop)
  obtain ⟨g₀, hg0⟩ := Option.isSome_iff_exists.mp htop
  obtain ⟨r, hr⟩ := State.topJava?_eq_some.mp hg0
  have hl9 : e.platform.stackLimits (T.setVm s.vm).me = e.platform.stackLimits s.me := X.limits
  have hb9 : (T.setVm s.vm).me.stackBytes = s.me.stackBytes := X.bytes
  refine ⟨X.admits, X.cas, X.clock, hF, ?_, X.hears, X.method, X.code, X.here, X.tail, X.warmed, ?_, ?_, ?_⟩
  · have h := X.room
    have hU : ((T.setVm s.vm).setFrames (.invoking m args :: below)).localsInUse = s.localsInUse := by
      rw [State.localsInUse_invoking hF (meth := meth) (c := c) X.method X.code, State.localsInUse_invoking X.frames X.method X.code]
    simp only [State.hasRoom, Bool.and_eq_true, decide_eq_true_eq] at h ⊢
    obtain ⟨⟨⟨⟨h1, h2, h3, h4, h5, h6⟩, h7⟩, h8⟩, h9⟩ := h
    rw [X.frames, List.length_cons] at h2 h3
    have q1 := X.heapSize
    have q2 := X.used
    simp only [hF, hU, List.length_cons, State.stackLimits_setFrames, State.stackBytes_setFrames, hl9, hb9]
    refine ⟨⟨⟨⟨by omega, by omega, by omega, by omega, by omega, h6⟩, ?_⟩, ?_⟩, X.book⟩
    · show T.heap.size + R'.cells ≤ e.platform.maxCells
      omega
    · show T.slotsUsed + R'.slots ≤ e.platform.maxSlots
      omega
  · rw [State.stackLimits_setFrames]; rfl
  · rw [State.stackBytes_setFrames]; rfl
  · refine ⟨?_, Nat.le_refl _, Nat.le_refl _, ?_, ?_, fun a c9 h9 => ⟨c9, h9, rfl, rfl, fun _ _ => rfl⟩⟩
    · obtain ⟨t, ht, -⟩ := State.frames_cons hr
      show T.setVm s.vm = { ((T.setVm s.vm).setFrames (.invoking m args :: below)).setFrames (T.setVm s.vm).frames with heap := T.heap, slotsUsed := T.slotsUsed }
      rw [State.setFrames_setFrames, State.setFrames_self ht]
      rfl
    · show T.slotsUsed = T.slotsUsed + ((T.heap.toList.drop T.heap.size).map (·.slots.size)).sum
      rw [List.drop_eq_nil_of_le (Nat.le_of_eq Array.length_toList)]
      rfl
    · show ((T.heap.toList.drop T.heap.size).map (·.slots.size)).sum ≤ 0
      rw [List.drop_eq_nil_of_le (Nat.le_of_eq Array.length_toList)]
      exact Nat.le_refl _
/-- 'throw new E()': new; dup; invokespecial; athrow -/
theorem vx_throw0 {cc : ByteArray} {pc : Nat} (hexec : p.tables.exec = Jvm.exec) (hb : c.code = cc) (hl : l.stackTraces = false) {own cls : String} {names : List String} {ik ic mc ms : Nat} {A : Nat → Prop}
    (hown : s.vm.findClass own = some m.cls) (hcls : Bundle.fit cls = true) (hnames : ∀ n ∈ names, Bundle.fit n = true)
    (hk : (Cond.classLink own ik cls).before args s = true) (hini : (Cond.initialized cls).before args s = true) (hat : ∀ w ∈ vx_at0 own ic cls names, w.before args s = true)
    (hgood : ∀ w ∈ Cond.classLink own ik cls :: Cond.initialized cls :: vx_at0 own ic cls names, vx_ot w = true)
    (hU : vx_Zq Bundle.tN "UNASSIGNED_STACK" Bundle.steD A s s.heap) (hN : vx_Zq Bundle.tN "SUPPRESSED_SENTINEL" Bundle.listD A s s.heap) (hS : va_S A s.heap H locs) (hsize : ls.size = c.maxLocals)
    (d0 : decode cc pc = .ok (.new ik, 3)) (d3 : decode cc (pc + 3) = .ok (.dup, 1)) (d4 : decode cc (pc + 4) = .ok (.invokespecial ic, 3)) (d7 : decode cc (pc + 7) = .ok (.athrow, 1))
    (hout : ∀ x ∈ c.exceptionTable.toList, covers x (pc + 7) = false)
    (hRframes : names.length + 3 < R.frames) (hRlocals : (rest.map fun v => v.category).sum + (13 * (names.length + 1) + 42) ≤ R.locals) (hRcells : cells + 1 ≤ R.cells) (hRslots : slots + 6 ≤ R.slots) (hlocks : meth.locks = false)
    (hx : ∀ t : State, s.vm.Alike t.vm → H.size ≤ t.heap.size → (∀ q : Nat, q < H.size → t.heap[q]? = H[q]?) → XC cls s t)
    (hf : ∀ z ∈ locs, free z.base) (hc : cells + 1 ≤ mc) (hs : slots + 6 ≤ ms) :
    W p l e R s m args below meth c H locs cells slots (vx_MQ below Qc XC args s mc ms free) (F0 m pc ls rest) := by
  intro T hT X
  have htr : e.platform.stackTraces = false := (show e.platform.stackTraces = l.stackTraces by rw [X.admits.platform]).trans hl
  have Y := vx_rebase X (R' := { frames := R.frames, locals := R.locals, cells := 1, slots := 6 }) (Nat.le_refl _) (Nat.le_refl _) hRcells hRslots
  obtain ⟨s', hA⟩ : ∃ z, z = (T.setVm s.vm).setFrames (.invoking m args :: below) := ⟨_, rfl⟩
  rw [← hA] at Y
  have hvm : s'.vm = s.vm := by rw [hA]; rfl
  have hhp : s'.heap = H := by rw [hA]; exact hT
  have hW0 : s.WarmedH s'.vm := by rw [hvm]; exact State.WarmedH.refl s
  have hat' : ∀ w ∈ vx_at0 own ic cls names, w.before args s' = true := fun w hw => vx_ot_at hW0 hvm.symm (hgood w (List.mem_cons_of_mem _ (List.mem_cons_of_mem _ hw))) (hat w hw)
  have hk' : (Cond.classLink own ik cls).before args s' = true := vx_ot_at hW0 hvm.symm (hgood _ List.mem_cons_self) hk
  have hini' : (Cond.initialized cls).before args s' = true := vx_ot_at hW0 hvm.symm (hgood _ (List.mem_cons_of_mem _ List.mem_cons_self)) hini
  have hU' : vx_Zq Bundle.tN "UNASSIGNED_STACK" Bundle.steD A s' s'.heap := by rw [hhp]; exact vx_Zq.moved hW0.alike (hU.kept hS.2.1)
  have hN' : vx_Zq Bundle.tN "SUPPRESSED_SENTINEL" Bundle.listD A s' s'.heap := by rw [hhp]; exact vx_Zq.moved hW0.alike (hN.kept hS.2.1)
  have h : ∀ w ∈ Bundle.ownAtoms0 own ic cls names, w.before args s' = true := vx_own hat' (vx_isRefq hU'.1) (vx_isRefq hN'.1) hU'.2.word hN'.2.word
  have hown' : s'.vm.findClass own = some m.cls := by rw [hvm]; exact hown
  have hins : (Cond.instantiable cls 6).before args s' = true := h _ (by simp [Bundle.ownAtoms0])
  obtain ⟨vm₁, cX, kX, hfX, hkX, -, -, X₁, st1⟩ := Y.newCold hexec (own := own) (C := cls) (index := ik) (n := 6) hown' hk' hins hini'
    (g := F0 m pc ls rest) rfl (by rw [hb]; exact d0) (Nat.le_refl _) (Nat.le_refl _)
  generalize hT1 : (T.setVm vm₁).pushCell { cls := cX, slots := kX.instanceTypes.map defaultValue, vm := .none } = T1 at X₁ st1
  have hcat : (Value.ref T.heap.size).category = 1 := rfl
  have hcellA : T1.heap[T.heap.size]? = some (freshCell cX kX) := by rw [← hT1]; exact State.heap_pushCell_size _ _
  have d3' : decode c.code (pc + 3) = .ok (.dup, 1) := by rw [hb]; exact d3
  obtain ⟨U, hsteps, hrun, hend, hW, hsame, ce, hce, hO⟩ := X₁.ctorThrow0 hexec htr (own := own) (cls := cls) (names := names) (ic := ic) hown' hcls hnames h (fun x hx => nomatch hx) hfX hkX hcellA (by rw [hhp, hT]; exact Nat.le_refl _)
    (g := { method := m, pc := pc + 4, locals := ls, stack := .ref T.heap.size :: .ref T.heap.size :: rest, locked := none }) rfl hsize rfl rfl (rest := rest) rfl
    (by rw [hb]; exact d4) (by rw [hb]; exact d7) hout hRframes (by simp only [List.map_cons, List.sum_cons, hcat]; omega) hlocks
  obtain ⟨f1, f2⟩ := vx_frame hsame
  rw [hhp] at f1 f2
  have hWs : s.WarmedH U.vm := State.WarmedH.trans hW0 hW
  have hcl : s.vm.findClass cls = some ce.cls := by
    have h9 := hO.cls
    rw [hvm] at h9
    exact h9
  have hall : s.sameButNew ({ U with vm := s.vm } : State) locs mc ms := by
    subst hA
    obtain ⟨e1, e2⟩ := hsame
    rw [State.setFrames_setFrames] at e1
    have h2 : (T.setVm s.vm).sameButNew ({ U with vm := s.vm } : State) [] (0 + 1) (0 + 6) := ⟨e1, e2⟩
    have h3 := X.same.trans h2
    rw [List.append_nil] at h3
    exact h3.mono hc hs
  refine ⟨U, ?_, .threw T.heap.size, hrun, hend, Or.inr ⟨T.heap.size, rfl, cls, ce, locs, hx U hWs.alike f1 (fun q hq => f2 q hq (fun z hz => nomatch hz)), hce, hO.vm, hcl, hWs, hall, hf⟩⟩
  refine st1 _ ?_
  show Steps p.tables e below (T1.setTop { method := m, pc := pc + 3, locals := ls, stack := .ref T.heap.size :: rest, locked := none }) _
  jvm_step X₁.here [X₁.here.top, hexec, d3', Value.category]
  exact hsteps
/-- 'throw new E("text")': new; dup; ldc; invokespecial; athrow -/
theorem vx_throwS {cc : ByteArray} {pc : Nat} (hexec : p.tables.exec = Jvm.exec) (hb : c.code = cc) (hl : l.stackTraces = false) {own cls text : String} {names : List String} {ik is ic mc ms sa : Nat} {A : Nat → Prop}
    (hown : s.vm.findClass own = some m.cls) (hcls : Bundle.fit cls = true) (hnames : ∀ n ∈ names, Bundle.fit n = true)
    (hk : (Cond.classLink own ik cls).before args s = true) (hini : (Cond.initialized cls).before args s = true) (hstr : vk_R own is text sa s) (hat : ∀ w ∈ vx_atS own ic cls names, w.before args s = true)
    (hgood : ∀ w ∈ Cond.classLink own ik cls :: Cond.initialized cls :: vx_atS own ic cls names, vx_ot w = true)
    (hU : vx_Zq Bundle.tN "UNASSIGNED_STACK" Bundle.steD A s s.heap) (hN : vx_Zq Bundle.tN "SUPPRESSED_SENTINEL" Bundle.listD A s s.heap) (hS : va_S A s.heap H locs) (hsize : ls.size = c.maxLocals)
    (d0 : decode cc pc = .ok (.new ik, 3)) (d3 : decode cc (pc + 3) = .ok (.dup, 1)) (d4 : decode cc (pc + 4) = .ok (.ldc is, 2)) (d6 : decode cc (pc + 6) = .ok (.invokespecial ic, 3)) (d9 : decode cc (pc + 9) = .ok (.athrow, 1))
    (hout : ∀ x ∈ c.exceptionTable.toList, covers x (pc + 9) = false)
    (hRframes : names.length + 3 < R.frames) (hRlocals : (rest.map fun v => v.category).sum + (13 * (names.length + 1) + 43) ≤ R.locals) (hRcells : cells + 1 ≤ R.cells) (hRslots : slots + 6 ≤ R.slots) (hlocks : meth.locks = false)
    (hx : ∀ t : State, s.vm.Alike t.vm → H.size ≤ t.heap.size → (∀ q : Nat, q < H.size → t.heap[q]? = H[q]?) → XC cls s t)
    (hf : ∀ z ∈ locs, free z.base) (hc : cells + 1 ≤ mc) (hs : slots + 6 ≤ ms) :
    W p l e R s m args below meth c H locs cells slots (vx_MQ below Qc XC args s mc ms free) (F0 m pc ls rest) := by
  intro T hT X
  have htr : e.platform.stackTraces = false := (show e.platform.stackTraces = l.stackTraces by rw [X.admits.platform]).trans hl
  have Y := vx_rebase X (R' := { frames := R.frames, locals := R.locals, cells := 1, slots := 6 }) (Nat.le_refl _) (Nat.le_refl _) hRcells hRslots
  obtain ⟨s', hA⟩ : ∃ z, z = (T.setVm s.vm).setFrames (.invoking m args :: below) := ⟨_, rfl⟩
  rw [← hA] at Y
  have hvm : s'.vm = s.vm := by rw [hA]; rfl
  have hhp : s'.heap = H := by rw [hA]; exact hT
  have hW0 : s.WarmedH s'.vm := by rw [hvm]; exact State.WarmedH.refl s
  have hat' : ∀ w ∈ vx_atS own ic cls names, w.before args s' = true := fun w hw => vx_ot_at hW0 hvm.symm (hgood w (List.mem_cons_of_mem _ (List.mem_cons_of_mem _ hw))) (hat w hw)
  have hk' : (Cond.classLink own ik cls).before args s' = true := vx_ot_at hW0 hvm.symm (hgood _ List.mem_cons_self) hk
  have hini' : (Cond.initialized cls).before args s' = true := vx_ot_at hW0 hvm.symm (hgood _ (List.mem_cons_of_mem _ List.mem_cons_self)) hini
  have hU' : vx_Zq Bundle.tN "UNASSIGNED_STACK" Bundle.steD A s' s'.heap := by rw [hhp]; exact vx_Zq.moved hW0.alike (hU.kept hS.2.1)
  have hN' : vx_Zq Bundle.tN "SUPPRESSED_SENTINEL" Bundle.listD A s' s'.heap := by rw [hhp]; exact vx_Zq.moved hW0.alike (hN.kept hS.2.1)
  have h : ∀ w ∈ Bundle.ownAtoms own ic cls names, w.before args s' = true := vx_own hat' (vx_isRefq hU'.1) (vx_isRefq hN'.1) hU'.2.word hN'.2.word
  have hown' : s'.vm.findClass own = some m.cls := by rw [hvm]; exact hown
  have hins : (Cond.instantiable cls 6).before args s' = true := h _ (by simp [Bundle.ownAtoms])
  obtain ⟨vm₁, cX, kX, hfX, hkX, -, -, X₁, st1⟩ := Y.newCold hexec (own := own) (C := cls) (index := ik) (n := 6) hown' hk' hins hini'
    (g := F0 m pc ls rest) rfl (by rw [hb]; exact d0) (Nat.le_refl _) (Nat.le_refl _)
  generalize hT1 : (T.setVm vm₁).pushCell { cls := cX, slots := kX.instanceTypes.map defaultValue, vm := .none } = T1 at X₁ st1
  have hcat : (Value.ref T.heap.size).category = 1 := rfl
  have hcellA : T1.heap[T.heap.size]? = some (freshCell cX kX) := by rw [← hT1]; exact State.heap_pushCell_size _ _
  have d3' : decode c.code (pc + 3) = .ok (.dup, 1) := by rw [hb]; exact d3
  have d4' : decode c.code (pc + 4) = .ok (.ldc is, 2) := by rw [hb]; exact d4
  have hstr' : vk_R own is text sa s' := vk_R.warm hW0 hstr
  obtain ⟨U, hsteps, hrun, hend, hW, hsame, ce, hce, hO⟩ := X₁.ctorThrowS hexec htr (own := own) (cls := cls) (names := names) (ic := ic) hown' hcls hnames h (fun x hx => nomatch hx) hfX hkX hcellA (by rw [hhp, hT]; exact Nat.le_refl _) (msg := .ref sa) rfl
    (g := { method := m, pc := pc + 6, locals := ls, stack := .ref sa :: .ref T.heap.size :: .ref T.heap.size :: rest, locked := none }) rfl hsize rfl rfl (rest := rest) rfl
    (by rw [hb]; exact d6) (by rw [hb]; exact d9) hout hRframes (by simp only [List.map_cons, List.sum_cons, hcat]; omega) hlocks
  obtain ⟨f1, f2⟩ := vx_frame hsame
  rw [hhp] at f1 f2
  have hWs : s.WarmedH U.vm := State.WarmedH.trans hW0 hW
  have hcl : s.vm.findClass cls = some ce.cls := by
    have h9 := hO.cls
    rw [hvm] at h9
    exact h9
  have hall : s.sameButNew ({ U with vm := s.vm } : State) locs mc ms := by
    subst hA
    obtain ⟨e1, e2⟩ := hsame
    rw [State.setFrames_setFrames] at e1
    have h2 : (T.setVm s.vm).sameButNew ({ U with vm := s.vm } : State) [] (0 + 1) (0 + 6) := ⟨e1, e2⟩
    have h3 := X.same.trans h2
    rw [List.append_nil] at h3
    exact h3.mono hc hs
  refine ⟨U, ?_, .threw T.heap.size, hrun, hend, Or.inr ⟨T.heap.size, rfl, cls, ce, locs, hx U hWs.alike f1 (fun q hq => f2 q hq (fun z hz => nomatch hz)), hce, hO.vm, hcl, hWs, hall, hf⟩⟩
  refine st1 _ ?_
  show Steps p.tables e below (T1.setTop { method := m, pc := pc + 3, locals := ls, stack := .ref T.heap.size :: rest, locked := none }) _
  jvm_step X₁.here [X₁.here.top, hexec, d3', Value.category]
  exact X₁.ldcString hexec (own := own) (text := text) (index := is) (a := sa) hown' hstr'.1 hstr'.2
    (g := { method := m, pc := pc + 4, locals := ls, stack := .ref T.heap.size :: .ref T.heap.size :: rest, locked := none }) rfl d4' _ hsteps
/-- 'throw new E("text")', the text by a wide index -/
theorem vx_throwSW {cc : ByteArray} {pc : Nat} (hexec : p.tables.exec = Jvm.exec) (hb : c.code = cc) (hl : l.stackTraces = false) {own cls text : String} {names : List String} {ik is ic mc ms sa : Nat} {A : Nat → Prop}
    (hown : s.vm.findClass own = some m.cls) (hcls : Bundle.fit cls = true) (hnames : ∀ n ∈ names, Bundle.fit n = true)
    (hk : (Cond.classLink own ik cls).before args s = true) (hini : (Cond.initialized cls).before args s = true) (hstr : vk_R own is text sa s) (hat : ∀ w ∈ vx_atS own ic cls names, w.before args s = true)
    (hgood : ∀ w ∈ Cond.classLink own ik cls :: Cond.initialized cls :: vx_atS own ic cls names, vx_ot w = true)
    (hU : vx_Zq Bundle.tN "UNASSIGNED_STACK" Bundle.steD A s s.heap) (hN : vx_Zq Bundle.tN "SUPPRESSED_SENTINEL" Bundle.listD A s s.heap) (hS : va_S A s.heap H locs) (hsize : ls.size = c.maxLocals)
    (d0 : decode cc pc = .ok (.new ik, 3)) (d3 : decode cc (pc + 3) = .ok (.dup, 1)) (d4 : decode cc (pc + 4) = .ok (.ldc_w is, 3)) (d7 : decode cc (pc + 7) = .ok (.invokespecial ic, 3)) (d10 : decode cc (pc + 10) = .ok (.athrow, 1))
    (hout : ∀ x ∈ c.exceptionTable.toList, covers x (pc + 10) = false)
    (hRframes : names.length + 3 < R.frames) (hRlocals : (rest.map fun v => v.category).sum + (13 * (names.length + 1) + 43) ≤ R.locals) (hRcells : cells + 1 ≤ R.cells) (hRslots : slots + 6 ≤ R.slots) (hlocks : meth.locks = false)
    (hx : ∀ t : State, s.vm.Alike t.vm → H.size ≤ t.heap.size → (∀ q : Nat, q < H.size → t.heap[q]? = H[q]?) → XC cls s t)
    (hf : ∀ z ∈ locs, free z.base) (hc : cells + 1 ≤ mc) (hs : slots + 6 ≤ ms) :
    W p l e R s m args below meth c H locs cells slots (vx_MQ below Qc XC args s mc ms free) (F0 m pc ls rest) := by
  intro T hT X
  have htr : e.platform.stackTraces = false := (show e.platform.stackTraces = l.stackTraces by rw [X.admits.platform]).trans hl
  have Y := vx_rebase X (R' := { frames := R.frames, locals := R.locals, cells := 1, slots := 6 }) (Nat.le_refl _) (Nat.le_refl _) hRcells hRslots
  obtain ⟨s', hA⟩ : ∃ z, z = (T.setVm s.vm).setFrames (.invoking m args :: below) := ⟨_, rfl⟩
  rw [← hA] at Y
  have hvm : s'.vm = s.vm := by rw [hA]; rfl
  have hhp : s'.heap = H := by rw [hA]; exact hT
  have hW0 : s.WarmedH s'.vm := by rw [hvm]; exact State.WarmedH.refl s
  have hat' : ∀ w ∈ vx_atS own ic cls names, w.before args s' = true := fun w hw => vx_ot_at hW0 hvm.symm (hgood w (List.mem_cons_of_mem _ (List.mem_cons_of_mem _ hw))) (hat w hw)
  have hk' : (Cond.classLink own ik cls).before args s' = true := vx_ot_at hW0 hvm.symm (hgood _ List.mem_cons_self) hk
  have hini' : (Cond.initialized cls).before args s' = true := vx_ot_at hW0 hvm.symm (hgood _ (List.mem_cons_of_mem _ List.mem_cons_self)) hini
  have hU' : vx_Zq Bundle.tN "UNASSIGNED_STACK" Bundle.steD A s' s'.heap := by rw [hhp]; exact vx_Zq.moved hW0.alike (hU.kept hS.2.1)
  have hN' : vx_Zq Bundle.tN "SUPPRESSED_SENTINEL" Bundle.listD A s' s'.heap := by rw [hhp]; exact vx_Zq.moved hW0.alike (hN.kept hS.2.1)
  have h : ∀ w ∈ Bundle.ownAtoms own ic cls names, w.before args s' = true := vx_own hat' (vx_isRefq hU'.1) (vx_isRefq hN'.1) hU'.2.word hN'.2.word
  have hown' : s'.vm.findClass own = some m.cls := by rw [hvm]; exact hown
  have hins : (Cond.instantiable cls 6).before args s' = true := h _ (by simp [Bundle.ownAtoms])
  obtain ⟨vm₁, cX, kX, hfX, hkX, -, -, X₁, st1⟩ := Y.newCold hexec (own := own) (C := cls) (index := ik) (n := 6) hown' hk' hins hini'
    (g := F0 m pc ls rest) rfl (by rw [hb]; exact d0) (Nat.le_refl _) (Nat.le_refl _)
  generalize hT1 : (T.setVm vm₁).pushCell { cls := cX, slots := kX.instanceTypes.map defaultValue, vm := .none } = T1 at X₁ st1
  have hcat : (Value.ref T.heap.size).category = 1 := rfl
  have hcellA : T1.heap[T.heap.size]? = some (freshCell cX kX) := by rw [← hT1]; exact State.heap_pushCell_size _ _
  have d3' : decode c.code (pc + 3) = .ok (.dup, 1) := by rw [hb]; exact d3
  have d4' : decode c.code (pc + 4) = .ok (.ldc_w is, 3) := by rw [hb]; exact d4
  have hstr' : vk_R own is text sa s' := vk_R.warm hW0 hstr
  obtain ⟨U, hsteps, hrun, hend, hW, hsame, ce, hce, hO⟩ := X₁.ctorThrowS hexec htr (own := own) (cls := cls) (names := names) (ic := ic) hown' hcls hnames h (fun x hx => nomatch hx) hfX hkX hcellA (by rw [hhp, hT]; exact Nat.le_refl _) (msg := .ref sa) rfl
    (g := { method := m, pc := pc + 7, locals := ls, stack := .ref sa :: .ref T.heap.size :: .ref T.heap.size :: rest, locked := none }) rfl hsize rfl rfl (rest := rest) rfl
    (by rw [hb]; exact d7) (by rw [hb]; exact d10) hout hRframes (by simp only [List.map_cons, List.sum_cons, hcat]; omega) hlocks
  obtain ⟨f1, f2⟩ := vx_frame hsame
  rw [hhp] at f1 f2
  have hWs : s.WarmedH U.vm := State.WarmedH.trans hW0 hW
  have hcl : s.vm.findClass cls = some ce.cls := by
    have h9 := hO.cls
    rw [hvm] at h9
    exact h9
  have hall : s.sameButNew ({ U with vm := s.vm } : State) locs mc ms := by
    subst hA
    obtain ⟨e1, e2⟩ := hsame
    rw [State.setFrames_setFrames] at e1
    have h2 : (T.setVm s.vm).sameButNew ({ U with vm := s.vm } : State) [] (0 + 1) (0 + 6) := ⟨e1, e2⟩
    have h3 := X.same.trans h2
    rw [List.append_nil] at h3
    exact h3.mono hc hs
  refine ⟨U, ?_, .threw T.heap.size, hrun, hend, Or.inr ⟨T.heap.size, rfl, cls, ce, locs, hx U hWs.alike f1 (fun q hq => f2 q hq (fun z hz => nomatch hz)), hce, hO.vm, hcl, hWs, hall, hf⟩⟩
  refine st1 _ ?_
  show Steps p.tables e below (T1.setTop { method := m, pc := pc + 3, locals := ls, stack := .ref T.heap.size :: rest, locked := none }) _
  jvm_step X₁.here [X₁.here.top, hexec, d3', Value.category]
  exact X₁.ldcStringW hexec (own := own) (text := text) (index := is) (a := sa) hown' hstr'.1 hstr'.2
    (g := { method := m, pc := pc + 4, locals := ls, stack := .ref T.heap.size :: .ref T.heap.size :: rest, locked := none }) rfl d4' _ hsteps
end Ends
section Bodies
variable {l : Launch}
theorem vx_ofW {y : MethodName} {ws ws' : List Cond} {rm : Room} {Pc : Array Value → State → Prop} {Qc : Array Value → State → Outcome → State → Prop} {XC : String → State → State → Prop} {mc ms : Nat} {free : Addr → Prop} {cc : ByteArray} {maxL : Nat} {ret : Option FieldType}
    (hy : plainName y.cls = true) (hw : ws = Cond.code y cc maxL ret :: ws')
    (body : ∀ p e s m args below meth c s₁, BodyLoose p l y (headSpec ws rm) cc maxL ret e s m args below meth c s₁ → c.maxLocals = maxL → (∀ x ∈ c.exceptionTable.toList, False) → Pc args s →
      W p l e (headSpec ws rm).room s m args below meth c s.heap [] 0 0 (vx_MQ below Qc XC args s mc ms free) (entryFrame m args maxL)) : vx_Met l y ws rm Pc Qc XC mc ms free := by
  refine MetFree.of_bodyS (code := cc) (maxLocals := maxL) (ret := ret) hy ?_ ?_
  · intro args s m h hn
    obtain ⟨meth, c, h1, h2, h3, h4, h5, h6, -, -⟩ := Cond.code_spec hn (atoms_spec (ws := ws) h _ (by rw [hw]; exact List.mem_cons_self))
    exact ⟨meth, c, h1, h2, h3, h4, h5, h6⟩
  · intro p e s m args below meth c s₁ B hml hP _
    have hh0 : s₁.heap = s.heap := by rw [B.state]; rfl
    have ht : ∀ x ∈ c.exceptionTable.toList, False := by
      obtain ⟨meth9, c9, h1, h2, -, -, -, -, h7, -⟩ := Cond.code_spec B.named (atoms_spec (ws := ws) B.pre _ (by rw [hw]; exact List.mem_cons_self))
      cases Option.some.inj (h1.symm.trans B.method)
      cases Option.some.inj (h2.symm.trans (Stand.of_body B).code)
      intro x hx
      rw [Array.isEmpty_iff.mp h7] at hx
      cases hx
    obtain ⟨t, a1, o, b1, b2, b3⟩ := body p e s m args below meth c s₁ B hml ht hP s₁ hh0 (Stand.of_body B)
    exact ⟨t, o, a1, b1, b2, b3⟩
/-- the table of a body with handlers -/
theorem vx_table {p : Program} {x y : MethodName} {S : Spec} {cc bytes : ByteArray} {maxL maxL' : Nat} {ret ret' : Option FieldType} {e : Env} {s s₁ : State} {m : MethodId} {args : Array Value} {below : List Frame} {meth : Method} {c : Code} {hh : List (Nat × Nat × Nat × Nat)}
    (B : BodyLoose p l y S cc maxL ret e s m args below meth c s₁) (h : (Cond.codeWith y bytes maxL' ret' hh).before args s = true) : c.exceptionTable.toList = tableOf hh := by
  obtain ⟨m9, meth9, c9, hn9, h1, h2, -, -, h6, -⟩ := Cond.codeWith_spec h
  cases Option.some.inj (hn9.symm.trans B.named)
  cases Option.some.inj (h1.symm.trans B.method)
  cases Option.some.inj (h2.symm.trans (Stand.of_body B).code)
  rw [← h6, table_eq]
end Bodies
end VXA
/-! ===== END ===== -/
/-! ===== BEGIN a static call of a method with an exception table ===== -/
section VXS
variable {p : Program} {l : Launch} {e : Env} {R : Room} {s : State} {m : MethodId} {args : Array Value} {below : List Frame} {meth : Method} {c : Code} {T : State} {H : Heap} {locs : List Loc} {cells slots : Nat}
abbrev vx_CSW (R : Room) (s : State) (args : Array Value) (own : String) (index : Nat) (y : MethodName) (bytes : ByteArray) (maxL : Nat) (ret : Option FieldType) (hh : List (Nat × Nat × Nat × Nat)) (ws : List Cond) (rm : Room) (mc ms n : Nat) : Prop :=
  (rm.cells = mc ∧ rm.slots = ms ∧ rm.frames + 1 ≤ R.frames ∧ 8 + (maxL + 11) + rm.locals ≤ R.locals ∧ (∀ w ∈ ws, ∀ (a' : Array Value) (U : State), s.WarmedH U.vm → w.before a' U = true) ∧ Cond.codeWith y bytes maxL ret hh ∈ ws) ∧
  (Cond.codeWith y bytes maxL ret hh).before args s = true ∧ (Cond.initialized y.cls).before args s = true ∧ (y.cls ≠ "java/lang/invoke/MethodHandle" ∧ y.cls ≠ "java/lang/invoke/VarHandle") ∧
  (∀ sig, parseMethodDescriptor y.desc = some sig → n = sig.parameters.length) ∧ (Cond.methodLink own index y).before args s = true ∧ (Cond.static y).before args s = true
theorem vx_cwSW {own : String} {index maxL mc ms : Nat} {y : MethodName} {bytes : ByteArray} {ret : Option FieldType} {hh : List (Nat × Nat × Nat × Nat)} {Ts ws ws' : List Cond} {rm : Room} (n : Nat) (ht : ∀ w ∈ Ts, w.before args s = true) (hT : GoodIn Ts (va_wsS own index y ws)) (hw : ws = Cond.codeWith y bytes maxL ret hh :: ws') (hrc : rm.cells = mc) (hrs : rm.slots = ms)
    (hd : y.cls ≠ "java/lang/invoke/MethodHandle" ∧ y.cls ≠ "java/lang/invoke/VarHandle" ∧ (parseMethodDescriptor y.desc).map (fun d => d.parameters.length) = some n) (hR : rm.frames + 1 ≤ R.frames ∧ 8 + (maxL + 11) + rm.locals ≤ R.locals) :
    vx_CSW R s args own index y bytes maxL ret hh ws rm mc ms n := by
  have ok : ∀ w ∈ va_wsS own index y ws, w.before args s = true := fun w h => ht w (hT w h).1
  have hG : GoodIn Ts ws := fun w h => hT w (by unfold va_wsS; exact List.mem_append_right _ h)
  have hc : Cond.codeWith y bytes maxL ret hh ∈ ws := by rw [hw]; exact List.mem_cons_self
  refine ⟨⟨hrc, hrs, hR.1, hR.2, pay_in ht hG, hc⟩, ht _ (hG _ hc).1, ok _ (by simp [va_wsS]), ⟨hd.1, hd.2.1⟩, fun sig h => ?_, ok _ (by simp [va_wsS]), ok _ (by simp [va_wsS])⟩
  have h2 := hd.2.2
  rw [h] at h2
  exact (Option.some.inj h2).symm
theorem vx_callSW (X : Stand p l e R s m args below meth c T locs cells slots) (hexec : p.tables.exec = Jvm.exec) {own : String} {index : Nat} {y : MethodName} {bytes : ByteArray} {maxL : Nat} {ret : Option FieldType} {hh : List (Nat × Nat × Nat × Nat)}
    (hown : s.vm.findClass own = some m.cls) (hlink : (Cond.methodLink own index y).before args s = true) (hstat : (Cond.static y).before args s = true) (hinit : (Cond.initialized y.cls).before args s = true)
    (hcode : (Cond.codeWith y bytes maxL ret hh).before args s = true) (hy : y.cls ≠ "java/lang/invoke/MethodHandle" ∧ y.cls ≠ "java/lang/invoke/VarHandle")
    {W9 : Nat} {Pre : Pt → Array Value → Prop} {Post : Pt → Array Value → Option Value → Pt → Prop} (hK : Back l R p e below s args y 3 W9 Pre Post)
    {g : JFrame} (hg : g.method = m) (hsize : g.locals.size = c.maxLocals) {argsL rest : List Value} (hlen : ∀ sig, parseMethodDescriptor y.desc = some sig → argsL.length = sig.parameters.length)
    (hstack : g.stack = argsL.reverse ++ rest) (hW : 2 * g.monitorRoom + (rest.map fun v => v.category).sum ≤ W9) (hdg : decode c.code g.pc = .ok (.invokestatic index, 3))
    (hpre : ∀ vm₁, s.WarmedH vm₁ → Pre ⟨T.setVm vm₁, locs, cells, slots⟩ argsL.toArray) :
    ∃ (v : Option Value) (vm₁ : Vm) (B : Pt), s.WarmedH vm₁ ∧ Stand p l e R s m args below meth c B.U B.locs B.cells B.slots ∧ Post ⟨T.setVm vm₁, locs, cells, slots⟩ argsL.toArray v B ∧
      ∀ target, Steps p.tables e below (B.U.setTop { g with pc := g.pc + 3, stack := v.toList ++ rest }) target → Steps p.tables e below (T.setTop g) target := by
  obtain ⟨mk, methM, cM, hnamed, hmethM, -, -, -, -, -, -, hsigM⟩ := Cond.codeWith_spec hcode
  have hstatic : methM.isStatic = true := Cond.static_spec hnamed hmethM hstat
  obtain ⟨kP, hkP, -⟩ := className_of_methodNamed hnamed
  have hinitP : kP.init = .initialized := Cond.initialized_spec (findClass_of_methodNamed hnamed) hkP hinit
  obtain ⟨vm₁, X₁, hstep₁⟩ := X.invokestatic hexec hown hlink hnamed hmethM hstatic hkP hinitP hy (g := g) hg (argsL := argsL) (rest := rest) (hlen _ hsigM) hstack hdg
  obtain ⟨v, B, X', hpost, hsteps⟩ := hK m meth c ⟨T.setVm vm₁, locs, cells, slots⟩ { g with stack := rest } (.invokestatic index) mk argsL.toArray X₁ hg hsize hdg hW (X₁.named hnamed) (hpre vm₁ X₁.warmed)
  exact ⟨v, vm₁, B, X₁.warmed, X', hpost, fun target h => hstep₁ _ fun acts => by rw [doInvoke_state]; exact hsteps.trans h⟩
theorem vx_runSW {y : MethodName} {bytes cc : ByteArray} {maxL nL mc ms n index : Nat} {ret : Option FieldType} {hh : List (Nat × Nat × Nat × Nat)} {ws : List Cond} {rm : Room} {Pc : Array Value → State → Prop} {Qc : Array Value → State → Outcome → State → Prop} {free : Addr → Prop} {Ts : List Cond} {own : String} {As rest : List Value} {g : JFrame}
    (S : CallFix p m c cc nL s args Ts own) (hM : Met l y ws rm Pc Qc mc ms free) (cw : vx_CSW R s args own index y bytes maxL ret hh ws rm mc ms n) (hp : PreS s H Pc As)
    (hg : g.method = m) (hn : As.length = n) (hsize : g.locals.size = nL) (hstack : g.stack = As.reverse ++ rest) (hW : 2 * g.monitorRoom + (rest.map fun v => v.category).sum ≤ 8) (hdg : decode cc g.pc = .ok (.invokestatic index, 3)) (hf : cells + mc ≤ R.cells ∧ slots + ms ≤ R.slots) :
    va_Run p l e R s m args below meth c H locs cells slots mc ms g rest (Qc As.toArray) (free) := by
  obtain ⟨⟨hrc, hrs, hfr, hlo, hws, hcw⟩, hcode, hini, hy, hlen, hl, hstt⟩ := cw
  have hK : Back l R p e below s args y 3 8 (PreOf R mc ms Pc) (PostOf Qc mc ms free) := va_backW (hh := hh) (bytes := bytes) (maxL := maxL) (ret := ret) hM hp.1 hrc hrs hfr hlo hws hcw (fun a' U hW => word_at hW (Or.inl (by first | rfl | simp [Cond.onTables, Cond.keeps, Cond.steady])) hini)
  obtain ⟨hx, hb, hml, ho, -⟩ := S
  intro T hT X
  obtain ⟨v, vm₁, ⟨U', l2, c2, s2⟩, hW₁, X', ⟨g', mk, t, L, e1, e2, hq, h1, hL, h2, h3⟩, st⟩ := vx_callSW X hx (hh := hh) (bytes := bytes) (maxL := maxL) (ret := ret) ho hl hstt hini hcode hy hK hg (hsize.trans hml.symm) (argsL := As) (rest := rest) (fun sig h => hn.trans (hlen sig h)) hstack hW (by rw [hb]; exact hdg)
    (fun vm₁ hW₁ => ⟨hf.1, hf.2, hp.2 (T.setVm vm₁) hT hW₁⟩)
  dsimp only [Pt.U, Pt.locs, Pt.cells, Pt.slots] at X' e1 e2 h1 h2 h3 st
  subst h1; subst h2; subst h3
  exact ⟨v, (T.setVm vm₁).calling g' mk As.toArray, t, U', L, hT, X', hL, e1, e2, hq, st⟩
/-- not caught here, past rows that name other classes: it goes on to the caller -/
theorem vx_outP {p : Program} {l : Launch} {e : Env} {R : Room} {s : State} {m : MethodId} {args : Array Value} {below : List Frame} {meth : Method} {c : Code} {H : Heap} {locs : List Loc} {cells slots : Nat} {free : Addr → Prop} {ls : Array Slot} {rest : List Value} {Qc : Array Value → State → Outcome → State → Prop} {XC : String → State → State → Prop}
    {pc : Nat} {own E : String} {ce : Cell} {q : Addr} {mc ms : Nat} (hown : s.vm.findClass own = some m.cls) (hlocks : meth.locks = false)
    (hpass : ∀ z ∈ c.exceptionTable.toList, covers z pc = false ∨ (z.catchType ≠ 0 ∧ ∃ nm : String, (Cond.classLink own z.catchType nm).before args s = true ∧ va_Nc E nm s)) (hcell : H[q]? = some ce) (hv : ce.vm = .none) (hcl : s.vm.findClass E = some ce.cls)
    (hx : ∀ t : State, t.heap = H → s.vm.Alike t.vm → XC E s t) (hf : ∀ z ∈ locs, free z.base) (hc : cells ≤ mc) (hs : slots ≤ ms) :
    vx_W p l e R s m args below meth c H locs cells slots (vx_MQ below Qc XC args s mc ms free) (F0 m pc ls rest) q := by
  intro T hT X
  have hpl : e.platform.magicAccessors = ({} : Platform).magicAccessors := by rw [X.admits.platform]
  obtain ⟨vm', hW', X', st⟩ := X.outThrough hlocks q (g := F0 m pc ls rest) rfl rfl rfl (cell := ce) (by rw [hT]; exact hcell) (by rw [hv]; rfl)
    (by obtain ⟨k9, h9, -⟩ := Vm.findClass_spec hcl; exact ⟨k9, h9⟩) (fun z hz => by
      rcases hpass z hz with h | ⟨hz0, nm, hl1, hn1⟩
      · exact Or.inl h
      · obtain ⟨c6, hc6, hcl6⟩ := Cond.classLink_spec hown hl1 e.platform hpl
        obtain ⟨a8, b8, h1, h2, h3⟩ := hn1
        cases Option.some.inj (h1.symm.trans hcl)
        cases Option.some.inj (h2.symm.trans hc6)
        exact Or.inr ⟨hz0, _, hcl6, h3⟩)
  obtain ⟨g₀, hfr⟩ := X'.frames_eq
  have hcell9 : ((T.setVm vm').setFrames (.throwing q :: below)).heap[q]? = some ce := by
    show T.heap[q]? = some ce
    rw [hT]; exact hcell
  have hend : Ended ((T.setVm vm').setFrames (.throwing q :: below)) below (.threw q) := State.frames_setFrames _ (State.cur_lt_of_frames hfr)
  refine ⟨(T.setVm vm').setFrames (.throwing q :: below), ?_, .threw q, X'.here.running, hend, Or.inr ⟨q, rfl, E, ce, locs, hx _ hT (X'.ends _).1.alike, hcell9, hv, hcl, (X'.ends _).1, (X'.ends _).2.mono hc hs, hf⟩⟩
  rw [X.pushThrowing_eq]
  exact st
/-- a thing of a world lies in the heap -/
theorem vx_lt {D : va_G} {cl : List vw_C} {ws : va_W} {H1 : Heap} (h : va_P D cl ws H1) {k : Nat} {q : Nat × va_E} (hk : ws[k]? = some q) : q.1 < H1.size := (h k q hk).lt
end VXS
/-! ===== END ===== -/
/-! ===== BEGIN methods with a table of their own: called by a name, returning or throwing ===== -/
section VXH
/-! vx_backW, vx_callVX, vx_callSX, vx_callVW, vx_runVW, vx_runVX, vx_runSX, vx_ofWH follow the same proofs as their sisters above (Free/Laws.lean, Shelf42/LK1.lean); vx_outP calls Shelf42/NT130.lean (outThrough). -/
section
variable {l : Launch} {R : Room} {p : Program} {e : Env} {below : List Frame} {s : State} {sargs : Array Value} {y : MethodName} {len W9 : Nat}
theorem vx_backW {ws : List Cond} {rm : Room} {Pc : Array Value → State → Prop} {Qc : Array Value → State → Outcome → State → Prop} {XC : String → State → State → Prop} {mc ms : Nat} {free : Addr → Prop} {bytes : ByteArray} {maxL : Nat} {ret : Option FieldType} {hh : List (Nat × Nat × Nat × Nat)}
    (hM : vx_Met l y ws rm Pc Qc XC mc ms free) (hblind : FrameBlind Pc) (hrc : rm.cells = mc) (hrs : rm.slots = ms)
    (hframes : rm.frames + 1 ≤ R.frames) (hlocals : W9 + (maxL + 11) + rm.locals ≤ R.locals)
    (hws : ∀ w ∈ ws, ∀ a' U, s.WarmedH U.vm → w.before a' U = true) (hcode : Cond.codeWith y bytes maxL ret hh ∈ ws) (hinit : ∀ a' U, s.WarmedH U.vm → (Cond.initialized y.cls).before a' U = true) :
    vx_Back l R p e below s sargs y len W9 (PreOf R mc ms Pc) (PostOf Qc mc ms free) (vx_Post XC mc ms free) := by
  intro m meth c A g ig mk a X hg hsize hdg hW hn hp
  have h1 : (headSpec ws rm).pre.before a A.U = true := atoms_intro fun w hw => hws w hw _ _ X.warmed
  have h2 : (Cond.codeWith y bytes maxL ret hh).before a A.U = true := hws _ hcode _ _ X.warmed
  have h3 : (Cond.initialized y.cls).before a A.U = true := hinit _ _ X.warmed
  have h4 : A.cells + (headSpec ws rm).room.cells ≤ R.cells := by rw [show (headSpec ws rm).room.cells = mc from hrc]; exact hp.1
  have h5 : A.slots + (headSpec ws rm).room.slots ≤ R.slots := by rw [show (headSpec ws rm).room.slots = ms from hrs]; exact hp.2.1
  have hPc : Pc a (A.U.calling g mk a) := hblind _ _ _ _ hp.2.2
  obtain ⟨U, Ls, c0, s0⟩ := A
  dsimp only [Pt.U, Pt.locs, Pt.cells, Pt.slots] at h1 h2 h3 h4 h5 X hn hPc ⊢
  obtain ⟨m9, methY, cY, hn9, hmY, hcY, -, hlY, -⟩ := Cond.codeWith_spec h2
  cases Option.some.inj (hn9.symm.trans hn)
  obtain ⟨kY, hkY, -⟩ := className_of_methodNamed hn
  have hinitY : kY.init = .initialized := Cond.initialized_spec (findClass_of_methodNamed hn) hkY h3
  have h : At U g.method c below := by rw [hg]; exact X.here
  have hlocals9 : W9 + (maxL + 11) + (headSpec ws rm).room.locals ≤ R.locals := hlocals
  have happ : (headSpec ws rm).appliesLoose y e.platform (U.calling g mk a) = true :=
    Spec.appliesLoose_calling (g := g) h hdg hn hkY hinitY
      (X.room_calling (g := g) (R' := (headSpec ws rm).room) hsize hmY hcY hframes (by rw [hlY]; omega) h4 h5) h1
  obtain ⟨mid, hmid⟩ := h.above
  have hfr : (U.setTop g).frames = (.java g :: mid) ++ below := by rw [State.frames_setTop' g h.top, hmid]; rfl
  obtain ⟨o, s₂, hsteps, -, hend, hq⟩ := Steps.callFree hM p X.admits X.cas X.clock (acts := []) hfr happ hPc trivial
  have hq' : vx_Q Qc XC mc ms free a (U.calling g mk a) o s₂ := hq
  rw [State.frames_setTop' g h.top] at hend
  obtain ⟨g₀, hg0⟩ := Option.isSome_iff_exists.mp h.top
  obtain ⟨r, hr⟩ := State.topJava?_eq_some.mp hg0
  have hr' : (({ U with heap := s₂.heap, slotsUsed := s₂.slotsUsed } : State).setVm s₂.vm).frames = .java g₀ :: r := hr
  rcases hq' with ⟨hqc, L, hfe, hL⟩ | ⟨q, rfl, E, ce, L, hx, hce, hcv, hcl, hW₂, hsm, hL⟩
  · obtain ⟨⟨v, rfl⟩, hW₂, e2, q2, q3, q4, q5, q6⟩ := id hfe
    have e3 : s₂ = ({ (U.calling g mk a).setFrames s₂.frames with heap := s₂.heap, slotsUsed := s₂.slotsUsed } : State).setVm s₂.vm := by
      have : s₂ = ({ s₂ with vm := (U.calling g mk a).vm } : State).setVm s₂.vm := rfl
      rw [e2] at this
      exact this
    obtain ⟨c₂, i₂, len₂, hc₂, hd₂, hf₂⟩ := hend
    have hW' : U.WarmedH s₂.vm := hW₂
    have hcc : c₂ = c := by
      have h1 : s₂.code? g.method = U.code? g.method := by
        rw [State.code?_eq, State.code?_eq, hW'.alike.method?]
      exact Option.some.inj (hc₂.symm.trans (h1.trans h.code))
    subst hcc
    have hlen : len₂ = len := by rw [hdg] at hd₂; cases hd₂; rfl
    subst hlen
    have hs₂ : s₂ = (({ U with heap := s₂.heap, slotsUsed := s₂.slotsUsed } : State).setVm s₂.vm).setTop { g with pc := g.pc + len₂, stack := v.toList ++ g.stack } := by
      refine e3.trans ?_
      rw [hf₂, State.calling_eq h.top, State.setFrames_setFrames, State.setTop_of_frames _ hr', hr]
      rfl
    have hsame : U.sameButNew ({ U with heap := s₂.heap, slotsUsed := s₂.slotsUsed } : State) L mc ms := by
      refine ⟨?_, q2, q3, q4, q5, q6⟩
      obtain ⟨t, ht, -⟩ := State.frames_cons hr
      show ({ U with heap := s₂.heap, slotsUsed := s₂.slotsUsed } : State) = { U.setFrames U.frames with heap := s₂.heap, slotsUsed := s₂.slotsUsed }
      rw [State.setFrames_self ht]
    subst hg
    refine Or.inl ⟨v, ⟨(({ U with heap := s₂.heap, slotsUsed := s₂.slotsUsed } : State).setVm s₂.vm), Ls ++ L, c0 + mc, s0 + ms⟩,
      ⟨X.admits, X.cas, X.clock, X.frames, X.room, X.hears, X.method, X.code, (X.here.setHeapUsed s₂.heap s₂.slotsUsed).setVm hW'.alike, X.tail, State.WarmedH.trans X.warmed hW', X.limits, X.bytes, X.same.trans (hsame.setVm s.vm)⟩,
      ⟨g, mk, s₂, L, rfl, rfl, hqc, rfl, hL, rfl, rfl⟩, ?_⟩
    show Steps p.tables e below _ ((({ U with heap := s₂.heap, slotsUsed := s₂.slotsUsed } : State).setVm s₂.vm).setTop { g with pc := g.pc + len₂, stack := v.toList ++ g.stack })
    rw [← hs₂]
    exact hsteps
  · obtain ⟨e2, q2, q3, q4, q5, q6⟩ := id hsm
    have e3 : s₂ = ({ (U.calling g mk a).setFrames s₂.frames with heap := s₂.heap, slotsUsed := s₂.slotsUsed } : State).setVm s₂.vm := by
      have : s₂ = ({ s₂ with vm := (U.calling g mk a).vm } : State).setVm s₂.vm := rfl
      rw [e2] at this
      exact this
    have hf₂ : s₂.frames = .throwing q :: .java g :: U.frames.tail := hend
    have hW' : U.WarmedH s₂.vm := hW₂
    have hs₂ : s₂ = ((({ U with heap := s₂.heap, slotsUsed := s₂.slotsUsed } : State).setVm s₂.vm).setTop g).pushFrame (.throwing q) := by
      refine e3.trans ?_
      rw [hf₂, State.calling_eq h.top, State.setFrames_setFrames, State.pushFrame, State.frames_setTop _ hr', State.setTop_of_frames _ hr', State.setFrames_setFrames, hr]
      rfl
    have hsame : U.sameButNew ({ U with heap := s₂.heap, slotsUsed := s₂.slotsUsed } : State) L mc ms := by
      refine ⟨?_, q2, q3, q4, q5, q6⟩
      obtain ⟨t, ht, -⟩ := State.frames_cons hr
      show ({ U with heap := s₂.heap, slotsUsed := s₂.slotsUsed } : State) = { U.setFrames U.frames with heap := s₂.heap, slotsUsed := s₂.slotsUsed }
      rw [State.setFrames_self ht]
    subst hg
    refine Or.inr ⟨q, ⟨(({ U with heap := s₂.heap, slotsUsed := s₂.slotsUsed } : State).setVm s₂.vm), Ls ++ L, c0 + mc, s0 + ms⟩,
      ⟨X.admits, X.cas, X.clock, X.frames, X.room, X.hears, X.method, X.code, (X.here.setHeapUsed s₂.heap s₂.slotsUsed).setVm hW'.alike, X.tail, State.WarmedH.trans X.warmed hW', X.limits, X.bytes, X.same.trans (hsame.setVm s.vm)⟩,
      ⟨g, mk, s₂, L, E, ce, rfl, rfl, hx, hce, hcv, hcl, rfl, hL, rfl, rfl⟩, ?_⟩
    show Steps p.tables e below _ (((({ U with heap := s₂.heap, slotsUsed := s₂.slotsUsed } : State).setVm s₂.vm).setTop g).pushFrame (.throwing q))
    rw [← hs₂]
    exact hsteps
end
variable {p : Program} {l : Launch} {e : Env} {R : Room} {s : State} {m : MethodId} {args : Array Value} {below : List Frame} {meth : Method} {c : Code} {T : State} {H : Heap} {locs : List Loc} {cells slots : Nat}
theorem vx_callVX (X : Stand p l e R s m args below meth c T locs cells slots) (hexec : p.tables.exec = Jvm.exec) {own C : String} {index : Nat} {y : MethodName} {bytes : ByteArray} {maxL : Nat} {ret : Option FieldType} {hh : List (Nat × Nat × Nat × Nat)}
    (hown : s.vm.findClass own = some m.cls) (hlink : (Cond.methodLink own index y).before args s = true) (hinst : (Cond.instanceMethod y).before args s = true) (hsel : (Cond.selects C y y).before args s = true)
    (hcode : (Cond.codeWith y bytes maxL ret hh).before args s = true) (hy : y.cls ≠ "java/lang/invoke/MethodHandle" ∧ y.cls ≠ "java/lang/invoke/VarHandle")
    {W9 : Nat} {Pre : Pt → Array Value → Prop} {Post : Pt → Array Value → Option Value → Pt → Prop} {PostX : Pt → Array Value → Addr → Pt → Prop} (hK : vx_Back l R p e below s args y 3 W9 Pre Post PostX)
    {b : Addr} {cellB : Cell} (hcell : T.heap[b]? = some cellB) (hobj : cellB.vm.isStatics = false) (hcls : s.vm.findClass C = some cellB.cls)
    {g : JFrame} (hg : g.method = m) (hsize : g.locals.size = c.maxLocals) {argsL rest : List Value} (hlen : ∀ sig, parseMethodDescriptor y.desc = some sig → argsL.length = sig.parameters.length)
    (hstack : g.stack = argsL.reverse ++ .ref b :: rest) (hW : 2 * g.monitorRoom + (rest.map fun v => v.category).sum ≤ W9) (hdg : decode c.code g.pc = .ok (.invokevirtual index, 3))
    (hpre : ∀ vm₁, s.WarmedH vm₁ → Pre ⟨T.setVm vm₁, locs, cells, slots⟩ (Value.ref b :: argsL).toArray) :
    (∃ (v : Option Value) (vm₁ : Vm) (B : Pt), s.WarmedH vm₁ ∧ Stand p l e R s m args below meth c B.U B.locs B.cells B.slots ∧ Post ⟨T.setVm vm₁, locs, cells, slots⟩ (Value.ref b :: argsL).toArray v B ∧
      ∀ target, Steps p.tables e below (B.U.setTop { g with pc := g.pc + 3, stack := v.toList ++ rest }) target → Steps p.tables e below (T.setTop g) target) ∨
    (∃ (q : Addr) (vm₁ : Vm) (B : Pt), s.WarmedH vm₁ ∧ Stand p l e R s m args below meth c B.U B.locs B.cells B.slots ∧ PostX ⟨T.setVm vm₁, locs, cells, slots⟩ (Value.ref b :: argsL).toArray q B ∧
      Steps p.tables e below (T.setTop g) ((B.U.setTop { g with stack := rest }).pushFrame (.throwing q))) := by
  obtain ⟨mk, methM, hnamed, hmethM, hstM, habM⟩ := Cond.instanceMethod_spec hinst
  obtain ⟨m8, methM', cM, hn8, hmethM', -, -, -, -, -, -, hsigM⟩ := Cond.codeWith_spec hcode
  cases Option.some.inj (hn8.symm.trans hnamed)
  cases hmethM.symm.trans hmethM'
  obtain ⟨c2, r2, m2, q1, q2, q3, q4, kP, hkP, hkPi⟩ := Cond.selects_spec hsel
  cases hcls.symm.trans q1
  cases (State.methodFound?_of_named hnamed hy).symm.trans q2
  cases hnamed.symm.trans q3
  have hselP : selectMethod e.platform s.vm cellB.cls mk = .method mk := by rw [Launch.admits_selectMethod X.admits]; exact q4
  obtain ⟨vm₁, X₁, hstep₁⟩ := X.invokevirtual hexec hown hlink hnamed hmethM hstM hkP hkPi hy (a := b) (cell := cellB) hcell
    (fun z h => by rw [h] at hobj; cases hobj) hselP hmethM habM hkP hkPi (g := g) hg (argsL := argsL) (rest := rest) (hlen _ hsigM) hstack hdg
  rcases hK m meth c ⟨T.setVm vm₁, locs, cells, slots⟩ { g with stack := rest } (.invokevirtual index) mk (Value.ref b :: argsL).toArray X₁ hg hsize hdg hW (X₁.named hnamed) (hpre vm₁ X₁.warmed) with ⟨v, B, X', hpost, hsteps⟩ | ⟨q, B, X', hpost, hsteps⟩
  · exact Or.inl ⟨v, vm₁, B, X₁.warmed, X', hpost, fun target h => hstep₁ _ fun acts => by rw [doInvoke_state]; exact hsteps.trans h⟩
  · exact Or.inr ⟨q, vm₁, B, X₁.warmed, X', hpost, hstep₁ _ fun acts => by rw [doInvoke_state]; exact hsteps⟩
theorem vx_callSX (X : Stand p l e R s m args below meth c T locs cells slots) (hexec : p.tables.exec = Jvm.exec) {own : String} {index : Nat} {y : MethodName} {bytes : ByteArray} {maxL : Nat} {ret : Option FieldType} {hh : List (Nat × Nat × Nat × Nat)}
    (hown : s.vm.findClass own = some m.cls) (hlink : (Cond.methodLink own index y).before args s = true) (hstat : (Cond.static y).before args s = true) (hinit : (Cond.initialized y.cls).before args s = true)
    (hcode : (Cond.codeWith y bytes maxL ret hh).before args s = true) (hy : y.cls ≠ "java/lang/invoke/MethodHandle" ∧ y.cls ≠ "java/lang/invoke/VarHandle")
    {W9 : Nat} {Pre : Pt → Array Value → Prop} {Post : Pt → Array Value → Option Value → Pt → Prop} {PostX : Pt → Array Value → Addr → Pt → Prop} (hK : vx_Back l R p e below s args y 3 W9 Pre Post PostX)
    {g : JFrame} (hg : g.method = m) (hsize : g.locals.size = c.maxLocals) {argsL rest : List Value} (hlen : ∀ sig, parseMethodDescriptor y.desc = some sig → argsL.length = sig.parameters.length)
    (hstack : g.stack = argsL.reverse ++ rest) (hW : 2 * g.monitorRoom + (rest.map fun v => v.category).sum ≤ W9) (hdg : decode c.code g.pc = .ok (.invokestatic index, 3))
    (hpre : ∀ vm₁, s.WarmedH vm₁ → Pre ⟨T.setVm vm₁, locs, cells, slots⟩ argsL.toArray) :
    (∃ (v : Option Value) (vm₁ : Vm) (B : Pt), s.WarmedH vm₁ ∧ Stand p l e R s m args below meth c B.U B.locs B.cells B.slots ∧ Post ⟨T.setVm vm₁, locs, cells, slots⟩ argsL.toArray v B ∧
      ∀ target, Steps p.tables e below (B.U.setTop { g with pc := g.pc + 3, stack := v.toList ++ rest }) target → Steps p.tables e below (T.setTop g) target) ∨
    (∃ (q : Addr) (vm₁ : Vm) (B : Pt), s.WarmedH vm₁ ∧ Stand p l e R s m args below meth c B.U B.locs B.cells B.slots ∧ PostX ⟨T.setVm vm₁, locs, cells, slots⟩ argsL.toArray q B ∧
      Steps p.tables e below (T.setTop g) ((B.U.setTop { g with stack := rest }).pushFrame (.throwing q))) := by
  obtain ⟨mk, methM, cM, hnamed, hmethM, -, -, -, -, -, -, hsigM⟩ := Cond.codeWith_spec hcode
  have hstatic : methM.isStatic = true := Cond.static_spec hnamed hmethM hstat
  obtain ⟨kP, hkP, -⟩ := className_of_methodNamed hnamed
  have hinitP : kP.init = .initialized := Cond.initialized_spec (findClass_of_methodNamed hnamed) hkP hinit
  obtain ⟨vm₁, X₁, hstep₁⟩ := X.invokestatic hexec hown hlink hnamed hmethM hstatic hkP hinitP hy (g := g) hg (argsL := argsL) (rest := rest) (hlen _ hsigM) hstack hdg
  rcases hK m meth c ⟨T.setVm vm₁, locs, cells, slots⟩ { g with stack := rest } (.invokestatic index) mk argsL.toArray X₁ hg hsize hdg hW (X₁.named hnamed) (hpre vm₁ X₁.warmed) with ⟨v, B, X', hpost, hsteps⟩ | ⟨q, B, X', hpost, hsteps⟩
  · exact Or.inl ⟨v, vm₁, B, X₁.warmed, X', hpost, fun target h => hstep₁ _ fun acts => by rw [doInvoke_state]; exact hsteps.trans h⟩
  · exact Or.inr ⟨q, vm₁, B, X₁.warmed, X', hpost, hstep₁ _ fun acts => by rw [doInvoke_state]; exact hsteps⟩
theorem vx_callVW (X : Stand p l e R s m args below meth c T locs cells slots) (hexec : p.tables.exec = Jvm.exec) {own C : String} {index : Nat} {y : MethodName} {bytes : ByteArray} {maxL : Nat} {ret : Option FieldType} {hh : List (Nat × Nat × Nat × Nat)}
    (hown : s.vm.findClass own = some m.cls) (hlink : (Cond.methodLink own index y).before args s = true) (hinst : (Cond.instanceMethod y).before args s = true) (hsel : (Cond.selects C y y).before args s = true)
    (hcode : (Cond.codeWith y bytes maxL ret hh).before args s = true) (hy : y.cls ≠ "java/lang/invoke/MethodHandle" ∧ y.cls ≠ "java/lang/invoke/VarHandle")
    {W9 : Nat} {Pre : Pt → Array Value → Prop} {Post : Pt → Array Value → Option Value → Pt → Prop} (hK : Back l R p e below s args y 3 W9 Pre Post)
    {b : Addr} {cellB : Cell} (hcell : T.heap[b]? = some cellB) (hobj : cellB.vm.isStatics = false) (hcls : s.vm.findClass C = some cellB.cls)
    {g : JFrame} (hg : g.method = m) (hsize : g.locals.size = c.maxLocals) {argsL rest : List Value} (hlen : ∀ sig, parseMethodDescriptor y.desc = some sig → argsL.length = sig.parameters.length)
    (hstack : g.stack = argsL.reverse ++ .ref b :: rest) (hW : 2 * g.monitorRoom + (rest.map fun v => v.category).sum ≤ W9) (hdg : decode c.code g.pc = .ok (.invokevirtual index, 3))
    (hpre : ∀ vm₁, s.WarmedH vm₁ → Pre ⟨T.setVm vm₁, locs, cells, slots⟩ (Value.ref b :: argsL).toArray) :
    ∃ (v : Option Value) (vm₁ : Vm) (B : Pt), s.WarmedH vm₁ ∧ Stand p l e R s m args below meth c B.U B.locs B.cells B.slots ∧ Post ⟨T.setVm vm₁, locs, cells, slots⟩ (Value.ref b :: argsL).toArray v B ∧
      ∀ target, Steps p.tables e below (B.U.setTop { g with pc := g.pc + 3, stack := v.toList ++ rest }) target → Steps p.tables e below (T.setTop g) target := by
  obtain ⟨mk, methM, hnamed, hmethM, hstM, habM⟩ := Cond.instanceMethod_spec hinst
  obtain ⟨m8, methM', cM, hn8, hmethM', -, -, -, -, -, -, hsigM⟩ := Cond.codeWith_spec hcode
  cases Option.some.inj (hn8.symm.trans hnamed)
  cases hmethM.symm.trans hmethM'
  obtain ⟨c2, r2, m2, q1, q2, q3, q4, kP, hkP, hkPi⟩ := Cond.selects_spec hsel
  cases hcls.symm.trans q1
  cases (State.methodFound?_of_named hnamed hy).symm.trans q2
  cases hnamed.symm.trans q3
  have hselP : selectMethod e.platform s.vm cellB.cls mk = .method mk := by rw [Launch.admits_selectMethod X.admits]; exact q4
  obtain ⟨vm₁, X₁, hstep₁⟩ := X.invokevirtual hexec hown hlink hnamed hmethM hstM hkP hkPi hy (a := b) (cell := cellB) hcell
    (fun z h => by rw [h] at hobj; cases hobj) hselP hmethM habM hkP hkPi (g := g) hg (argsL := argsL) (rest := rest) (hlen _ hsigM) hstack hdg
  obtain ⟨v, B, X', hpost, hsteps⟩ := hK m meth c ⟨T.setVm vm₁, locs, cells, slots⟩ { g with stack := rest } (.invokevirtual index) mk (Value.ref b :: argsL).toArray X₁ hg hsize hdg hW (X₁.named hnamed) (hpre vm₁ X₁.warmed)
  exact ⟨v, vm₁, B, X₁.warmed, X', hpost, fun target h => hstep₁ _ fun acts => by rw [doInvoke_state]; exact hsteps.trans h⟩
abbrev vx_CVW (R : Room) (s : State) (args : Array Value) (own C : String) (index : Nat) (y : MethodName) (bytes : ByteArray) (maxL : Nat) (ret : Option FieldType) (hh : List (Nat × Nat × Nat × Nat)) (ws : List Cond) (rm : Room) (mc ms n : Nat) : Prop :=
  (rm.cells = mc ∧ rm.slots = ms ∧ rm.frames + 1 ≤ R.frames ∧ 8 + (maxL + 11) + rm.locals ≤ R.locals ∧ (∀ w ∈ ws, ∀ (a' : Array Value) (U : State), s.WarmedH U.vm → w.before a' U = true) ∧ Cond.codeWith y bytes maxL ret hh ∈ ws) ∧
  (Cond.codeWith y bytes maxL ret hh).before args s = true ∧ (Cond.initialized y.cls).before args s = true ∧ (y.cls ≠ "java/lang/invoke/MethodHandle" ∧ y.cls ≠ "java/lang/invoke/VarHandle") ∧
  (∀ sig, parseMethodDescriptor y.desc = some sig → n = sig.parameters.length) ∧ (Cond.methodLink own index y).before args s = true ∧ (Cond.instanceMethod y).before args s = true ∧ (Cond.selects C y y).before args s = true
theorem vx_cwVW {own C : String} {index maxL mc ms : Nat} {y : MethodName} {bytes : ByteArray} {ret : Option FieldType} {hh : List (Nat × Nat × Nat × Nat)} {Ts ws ws' : List Cond} {rm : Room} (n : Nat) (ht : ∀ w ∈ Ts, w.before args s = true) (hT : GoodIn Ts (wsV own index C y ws)) (hw : ws = Cond.codeWith y bytes maxL ret hh :: ws') (hrc : rm.cells = mc) (hrs : rm.slots = ms)
    (hd : y.cls = C ∧ y.cls ≠ "java/lang/invoke/MethodHandle" ∧ y.cls ≠ "java/lang/invoke/VarHandle" ∧ (parseMethodDescriptor y.desc).map (fun d => d.parameters.length) = some n) (hR : rm.frames + 1 ≤ R.frames ∧ 8 + (maxL + 11) + rm.locals ≤ R.locals) :
    vx_CVW R s args own C index y bytes maxL ret hh ws rm mc ms n := by
  obtain ⟨hC, hd⟩ := hd
  subst hC
  have ok : ∀ w ∈ wsV own index y.cls y ws, w.before args s = true := fun w h => ht w (hT w h).1
  have hG : GoodIn Ts ws := fun w h => hT w (by unfold wsV; exact List.mem_append_right _ h)
  have hc : Cond.codeWith y bytes maxL ret hh ∈ ws := by rw [hw]; exact List.mem_cons_self
  refine ⟨⟨hrc, hrs, hR.1, hR.2, pay_in ht hG, hc⟩, ht _ (hG _ hc).1, ok _ (by simp [wsV]), ⟨hd.1, hd.2.1⟩, fun sig h => ?_, ok _ (by simp [wsV]), ok _ (by simp [wsV]), ok _ (by simp [wsV])⟩
  have h2 := hd.2.2
  rw [h] at h2
  exact (Option.some.inj h2).symm
theorem vx_runVW {y : MethodName} {bytes cc : ByteArray} {maxL nL mc ms n index : Nat} {ret : Option FieldType} {hh : List (Nat × Nat × Nat × Nat)} {ws : List Cond} {rm : Room} {Pc : Array Value → State → Prop} {Qc : Array Value → State → Outcome → State → Prop} {free : Addr → Prop} {Ts : List Cond} {own C : String} {b : Addr} {As rest : List Value} {g : JFrame}
    (S : CallFix p m c cc nL s args Ts own) (hM : Met l y ws rm Pc Qc mc ms free) (cw : vx_CVW R s args own C index y bytes maxL ret hh ws rm mc ms n) (hp : PreV s H C b Pc As)
    (hg : g.method = m) (hn : As.length = n) (hsize : g.locals.size = nL) (hstack : g.stack = As.reverse ++ .ref b :: rest) (hW : 2 * g.monitorRoom + (rest.map fun v => v.category).sum ≤ 8) (hdg : decode cc g.pc = .ok (.invokevirtual index, 3)) (hf : cells + mc ≤ R.cells ∧ slots + ms ≤ R.slots) :
    va_Run p l e R s m args below meth c H locs cells slots mc ms g rest (Qc (Value.ref b :: As).toArray) free := by
  obtain ⟨⟨hrc, hrs, hfr, hlo, hws, hcw⟩, hcode, hini, hy, hlen, hl, hin, hse⟩ := cw
  have hK : Back l R p e below s args y 3 8 (PreOf R mc ms Pc) (PostOf Qc mc ms free) := va_backW (hh := hh) (bytes := bytes) (maxL := maxL) (ret := ret) hM hp.1 hrc hrs hfr hlo hws hcw (fun a' U hW => word_at hW (Or.inl (by first | rfl | simp [Cond.onTables, Cond.keeps, Cond.steady])) hini)
  obtain ⟨hx, hb, hml, ho, -⟩ := S
  obtain ⟨-, ⟨cellB, hcB, hoB, hclB⟩, hPc⟩ := hp
  intro T hT X
  obtain ⟨v, vm₁, ⟨U', l2, c2, s2⟩, hW₁, X', ⟨g', mk, t, L, e1, e2, hq, h1, hL, h2, h3⟩, st⟩ := vx_callVW X hx (C := C) (hh := hh) (bytes := bytes) (maxL := maxL) (ret := ret) ho hl hin hse hcode hy hK (by rw [hT]; exact hcB) hoB hclB hg (hsize.trans hml.symm) (argsL := As) (rest := rest) (fun sig h => hn.trans (hlen sig h)) hstack hW (by rw [hb]; exact hdg)
    (fun vm₁ hW₁ => ⟨hf.1, hf.2, hPc (T.setVm vm₁) hT hW₁⟩)
  dsimp only [Pt.U, Pt.locs, Pt.cells, Pt.slots] at X' e1 e2 h1 h2 h3 st
  subst h1; subst h2; subst h3
  exact ⟨v, (T.setVm vm₁).calling g' mk (Value.ref b :: As).toArray, t, U', L, hT, X', hL, e1, e2, hq, st⟩
section
variable {y : MethodName} {bytes cc : ByteArray} {maxL nL mc ms n index : Nat} {ret : Option FieldType} {ws : List Cond} {rm : Room} {Pc : Array Value → State → Prop} {Qc : Array Value → State → Outcome → State → Prop} {XC : String → State → State → Prop} {free : Addr → Prop} {Ts : List Cond} {own C : String} {b : Addr} {As rest : List Value} {g : JFrame}
theorem vx_runVX {hh : List (Nat × Nat × Nat × Nat)} (S : CallFix p m c cc nL s args Ts own) (hM : vx_Met l y ws rm Pc Qc XC mc ms free) (cw : vx_CVW R s args own C index y bytes maxL ret hh ws rm mc ms n) (hp : PreV s H C b Pc As)
    (hg : g.method = m) (hn : As.length = n) (hsize : g.locals.size = nL) (hstack : g.stack = As.reverse ++ .ref b :: rest) (hW : 2 * g.monitorRoom + (rest.map fun v => v.category).sum ≤ 8) (hdg : decode cc g.pc = .ok (.invokevirtual index, 3)) (hf : cells + mc ≤ R.cells ∧ slots + ms ≤ R.slots) :
    vx_Run p l e R s m args below meth c H locs cells slots mc ms g rest (Qc (Value.ref b :: As).toArray) XC free := by
  obtain ⟨⟨hrc, hrs, hfr, hlo, hws, hcw⟩, hcode, hini, hy, hlen, hl, hin, hse⟩ := cw
  have hK : vx_Back l R p e below s args y 3 8 (PreOf R mc ms Pc) (PostOf Qc mc ms free) (vx_Post XC mc ms free) := vx_backW (hh := hh) (bytes := bytes) (maxL := maxL) (ret := ret) hM hp.1 hrc hrs hfr hlo hws hcw (fun a' U hW => word_at hW (Or.inl (by first | rfl | simp [Cond.onTables, Cond.keeps, Cond.steady])) hini)
  obtain ⟨hx, hb, hml, ho, -⟩ := S
  obtain ⟨-, ⟨cellB, hcB, hoB, hclB⟩, hPc⟩ := hp
  intro T hT X
  rcases vx_callVX X hx (C := C) (hh := hh) (bytes := bytes) (maxL := maxL) (ret := ret) ho hl hin hse hcode hy hK (by rw [hT]; exact hcB) hoB hclB hg (hsize.trans hml.symm) (argsL := As) (rest := rest) (fun sig h => hn.trans (hlen sig h)) hstack hW (by rw [hb]; exact hdg)
    (fun vm₁ hW₁ => ⟨hf.1, hf.2, hPc (T.setVm vm₁) hT hW₁⟩) with ⟨v, vm₁, ⟨U', l2, c2, s2⟩, hW₁, X', ⟨g', mk, t, L, e1, e2, hq, h1, hL, h2, h3⟩, st⟩ | ⟨q, vm₁, ⟨U', l2, c2, s2⟩, hW₁, X', ⟨g', mk, t, L, E, ce, e1, e2, hq, hce, hcv, hcl, h1, hL, h2, h3⟩, st⟩
  · dsimp only [Pt.U, Pt.locs, Pt.cells, Pt.slots] at X' e1 e2 h1 h2 h3 st
    subst h1; subst h2; subst h3
    exact Or.inl ⟨v, (T.setVm vm₁).calling g' mk (Value.ref b :: As).toArray, t, U', L, hT, X', hL, e1, e2, hq, st⟩
  · dsimp only [Pt.U, Pt.locs, Pt.cells, Pt.slots] at X' e1 e2 h1 h2 h3 st hcl
    subst h1; subst h2; subst h3
    exact Or.inr ⟨q, (T.setVm vm₁).calling g' mk (Value.ref b :: As).toArray, t, U', L, E, ce, hT, X', hL, e1, e2, hq, hce, hcv, vx_cls hW₁ hcl, st⟩
theorem vx_runSX {hh : List (Nat × Nat × Nat × Nat)} (S : CallFix p m c cc nL s args Ts own) (hM : vx_Met l y ws rm Pc Qc XC mc ms free) (cw : vx_CSW R s args own index y bytes maxL ret hh ws rm mc ms n) (hp : PreS s H Pc As)
    (hg : g.method = m) (hn : As.length = n) (hsize : g.locals.size = nL) (hstack : g.stack = As.reverse ++ rest) (hW : 2 * g.monitorRoom + (rest.map fun v => v.category).sum ≤ 8) (hdg : decode cc g.pc = .ok (.invokestatic index, 3)) (hf : cells + mc ≤ R.cells ∧ slots + ms ≤ R.slots) :
    vx_Run p l e R s m args below meth c H locs cells slots mc ms g rest (Qc As.toArray) XC free := by
  obtain ⟨⟨hrc, hrs, hfr, hlo, hws, hcw⟩, hcode, hini, hy, hlen, hl, hstt⟩ := cw
  have hK : vx_Back l R p e below s args y 3 8 (PreOf R mc ms Pc) (PostOf Qc mc ms free) (vx_Post XC mc ms free) := vx_backW (hh := hh) (bytes := bytes) (maxL := maxL) (ret := ret) hM hp.1 hrc hrs hfr hlo hws hcw (fun a' U hW => word_at hW (Or.inl (by first | rfl | simp [Cond.onTables, Cond.keeps, Cond.steady])) hini)
  obtain ⟨hx, hb, hml, ho, -⟩ := S
  intro T hT X
  rcases vx_callSX X hx (hh := hh) (bytes := bytes) (maxL := maxL) (ret := ret) ho hl hstt hini hcode hy hK hg (hsize.trans hml.symm) (argsL := As) (rest := rest) (fun sig h => hn.trans (hlen sig h)) hstack hW (by rw [hb]; exact hdg)
    (fun vm₁ hW₁ => ⟨hf.1, hf.2, hp.2 (T.setVm vm₁) hT hW₁⟩) with ⟨v, vm₁, ⟨U', l2, c2, s2⟩, hW₁, X', ⟨g', mk, t, L, e1, e2, hq, h1, hL, h2, h3⟩, st⟩ | ⟨q, vm₁, ⟨U', l2, c2, s2⟩, hW₁, X', ⟨g', mk, t, L, E, ce, e1, e2, hq, hce, hcv, hcl, h1, hL, h2, h3⟩, st⟩
  · dsimp only [Pt.U, Pt.locs, Pt.cells, Pt.slots] at X' e1 e2 h1 h2 h3 st
    subst h1; subst h2; subst h3
    exact Or.inl ⟨v, (T.setVm vm₁).calling g' mk As.toArray, t, U', L, hT, X', hL, e1, e2, hq, st⟩
  · dsimp only [Pt.U, Pt.locs, Pt.cells, Pt.slots] at X' e1 e2 h1 h2 h3 st hcl
    subst h1; subst h2; subst h3
    exact Or.inr ⟨q, (T.setVm vm₁).calling g' mk As.toArray, t, U', L, E, ce, hT, X', hL, e1, e2, hq, hce, hcv, vx_cls hW₁ hcl, st⟩
end
end VXH
theorem vx_ofWH {l : Launch} {y : MethodName} {ws ws' : List Cond} {rm : Room} {Pc : Array Value → State → Prop} {Qc : Array Value → State → Outcome → State → Prop} {XC : String → State → State → Prop} {mc ms : Nat} {free : Addr → Prop} {cc : ByteArray} {maxL : Nat} {ret : Option FieldType} {hh : List (Nat × Nat × Nat × Nat)}
    (hy : plainName y.cls = true) (hw : ws = Cond.codeWith y cc maxL ret hh :: ws')
    (body : ∀ p e s m args below meth c s₁, BodyLoose p l y (headSpec ws rm) cc maxL ret e s m args below meth c s₁ → c.maxLocals = maxL → Pc args s →
      W p l e (headSpec ws rm).room s m args below meth c s.heap [] 0 0 (vx_MQ below Qc XC args s mc ms free) (entryFrame m args maxL)) : vx_Met l y ws rm Pc Qc XC mc ms free := by
  refine MetFree.of_bodyS (code := cc) (maxLocals := maxL) (ret := ret) hy ?_ ?_
  · intro args s m h hn
    obtain ⟨m9, meth, c, hn9, h1, h2, h3, h4, -, h5, h6, -⟩ := Cond.codeWith_spec (atoms_spec (ws := ws) h _ (by rw [hw]; exact List.mem_cons_self))
    cases hn.symm.trans hn9
    exact ⟨meth, c, h1, h2, h3, h4, h5, h6⟩
  · intro p e s m args below meth c s₁ B hml hP _
    have hh0 : s₁.heap = s.heap := by rw [B.state]; rfl
    obtain ⟨t, a1, o, b1, b2, b3⟩ := body p e s m args below meth c s₁ B hml hP s₁ hh0 (Stand.of_body B)
    exact ⟨t, o, a1, b1, b2, b3⟩
/-! ===== END ===== -/

/-! ===== BEGIN a constructor that throws (launches without stack traces) ===== -/
section VXIA
variable {p : Program} {l : Launch} {e : Env} {R : Room} {s : State} {m : MethodId} {args : Array Value} {below : List Frame} {meth : Method} {c : Code} {T : State} {locs : List Loc} {cells slots : Nat}
theorem vx_callI (X : Stand p l e R s m args below meth c T locs cells slots) (hexec : p.tables.exec = Jvm.exec) {own : String} {index : Nat} {y : MethodName} {bytes : ByteArray} {maxL : Nat}
    (hown : s.vm.findClass own = some m.cls) (hy1 : y.name = "<init>") (hlink : (Cond.methodLink own index y).before args s = true) (hinst : (Cond.instanceMethod y).before args s = true)
    (hcode : (Cond.code y bytes maxL none).before args s = true) (hy : y.cls ≠ "java/lang/invoke/MethodHandle" ∧ y.cls ≠ "java/lang/invoke/VarHandle")
    {W9 : Nat} {Pre : Pt → Array Value → Prop} {Post : Pt → Array Value → Option Value → Pt → Prop} {PostX : Pt → Array Value → Addr → Pt → Prop} (hK : vx_Back l R p e below s args y 3 W9 Pre Post PostX)
    {g : JFrame} (hg : g.method = m) (hsize : g.locals.size = c.maxLocals) {a : Addr} {argsL rest : List Value} (hlen : ∀ sig, parseMethodDescriptor y.desc = some sig → argsL.length = sig.parameters.length)
    (hstack : g.stack = argsL.reverse ++ .ref a :: rest) (hW : 2 * g.monitorRoom + (rest.map fun v => v.category).sum ≤ W9) (hdg : decode c.code g.pc = .ok (.invokespecial index, 3))
    (hpre : ∀ vm₁, s.WarmedH vm₁ → Pre ⟨T.setVm vm₁, locs, cells, slots⟩ (Value.ref a :: argsL).toArray) :
    (∃ (v : Option Value) (vm₁ : Vm) (B : Pt), s.WarmedH vm₁ ∧ Stand p l e R s m args below meth c B.U B.locs B.cells B.slots ∧ Post ⟨T.setVm vm₁, locs, cells, slots⟩ (Value.ref a :: argsL).toArray v B ∧
      ∀ target, Steps p.tables e below (B.U.setTop { g with pc := g.pc + 3, stack := v.toList ++ rest }) target → Steps p.tables e below (T.setTop g) target) ∨
    (∃ (q : Addr) (vm₁ : Vm) (B : Pt), s.WarmedH vm₁ ∧ Stand p l e R s m args below meth c B.U B.locs B.cells B.slots ∧ PostX ⟨T.setVm vm₁, locs, cells, slots⟩ (Value.ref a :: argsL).toArray q B ∧
      Steps p.tables e below (T.setTop g) ((B.U.setTop { g with stack := rest }).pushFrame (.throwing q))) := by
  subst hg
  have hpl : e.platform.magicAccessors = ({} : Platform).magicAccessors := by rw [X.admits.platform]
  obtain ⟨mk, methM, cM, kP, vm₁, hnamed, hmethM, hcodeM, -, hlocalsM, -, hkP, -, hW₁, hstep₁⟩ := Steps.initColdArgs (e := e) X.here hexec X.warmed hpl hown hy1 hy hlink hinst hcode (f := g) rfl hlen hstack hdg
  have X₁ := X.noted hW₁
  rcases hK g.method meth c ⟨T.setVm vm₁, locs, cells, slots⟩ { g with stack := rest } (.invokespecial index) mk (Value.ref a :: argsL).toArray X₁ rfl hsize hdg hW (X₁.named hnamed) (hpre vm₁ X₁.warmed) with ⟨v, B, X', hpost, hsteps⟩ | ⟨q, B, X', hpost, hsteps⟩
  · exact Or.inl ⟨v, vm₁, B, X₁.warmed, X', hpost, fun target h => hstep₁ _ fun acts => by rw [doInvoke_state]; exact hsteps.trans h⟩
  · exact Or.inr ⟨q, vm₁, B, X₁.warmed, X', hpost, hstep₁ _ fun acts => by rw [doInvoke_state]; exact hsteps⟩
end VXIA
section VXIB
variable {p : Program} {l : Launch} {e : Env} {R : Room} {s : State} {m : MethodId} {args : Array Value} {below : List Frame} {meth : Method} {c : Code} {H : Heap} {locs : List Loc} {cells slots : Nat}
variable {y : MethodName} {bytes cc : ByteArray} {maxL nL mc ms n index : Nat} {ret : Option FieldType} {ws : List Cond} {rm : Room} {Pc : Array Value → State → Prop} {Qc : Array Value → State → Outcome → State → Prop} {XC : String → State → State → Prop} {free : Addr → Prop} {Ts : List Cond} {own C : String} {b : Addr} {As rest : List Value} {g : JFrame}
theorem vx_runI (S : CallFix p m c cc nL s args Ts own) (hM : vx_Met l y ws rm Pc Qc XC mc ms free) (cw : CallB R s args own index y bytes maxL none ws rm mc ms n ∧ y.name = "<init>" ∧ (Cond.instanceMethod y).before args s = true) (hp : PreS s H Pc (.ref b :: As))
    (hg : g.method = m) (hn : As.length = n) (hsize : g.locals.size = nL) (hstack : g.stack = As.reverse ++ .ref b :: rest) (hW : 2 * g.monitorRoom + (rest.map fun v => v.category).sum ≤ 8) (hdg : decode cc g.pc = .ok (.invokespecial index, 3)) (hf : cells + mc ≤ R.cells ∧ slots + ms ≤ R.slots) :
    vx_Run p l e R s m args below meth c H locs cells slots mc ms g rest (Qc (Value.ref b :: As).toArray) XC free := by
  have hK : vx_Back l R p e below s args y 3 8 (PreOf R mc ms Pc) (PostOf Qc mc ms free) (vx_Post XC mc ms free) := vx_callBack cw.1 hM hp.1
  obtain ⟨⟨-, -, -, -, -, -, hcode, -, hy, hlen, hl⟩, hy1, hin⟩ := cw
  obtain ⟨hx, hb, hml, ho, -⟩ := S
  have hPc := hp.2
  intro T hT X
  rcases vx_callI X hx (bytes := bytes) (maxL := maxL) ho hy1 hl hin hcode hy hK hg (hsize.trans hml.symm) (a := b) (argsL := As) (rest := rest) (fun sig h => hn.trans (hlen sig h)) hstack hW (by rw [hb]; exact hdg)
    (fun vm₁ hW₁ => ⟨hf.1, hf.2, hPc (T.setVm vm₁) hT hW₁⟩) with ⟨v, vm₁, ⟨U', l2, c2, s2⟩, hW₁, X', ⟨g', mk, t, L, e1, e2, hq, h1, hL, h2, h3⟩, st⟩ | ⟨q, vm₁, ⟨U', l2, c2, s2⟩, hW₁, X', ⟨g', mk, t, L, E, ce, e1, e2, hq, hce, hcv, hcl, h1, hL, h2, h3⟩, st⟩
  · dsimp only [Pt.U, Pt.locs, Pt.cells, Pt.slots] at X' e1 e2 h1 h2 h3 st
    subst h1; subst h2; subst h3
    exact Or.inl ⟨v, (T.setVm vm₁).calling g' mk (Value.ref b :: As).toArray, t, U', L, hT, X', hL, e1, e2, hq, st⟩
  · dsimp only [Pt.U, Pt.locs, Pt.cells, Pt.slots] at X' e1 e2 h1 h2 h3 st hcl
    subst h1; subst h2; subst h3
    exact Or.inr ⟨q, (T.setVm vm₁).calling g' mk (Value.ref b :: As).toArray, t, U', L, E, ce, hT, X', hL, e1, e2, hq, hce, hcv, vx_cls hW₁ hcl, st⟩
end VXIB
/-! ===== END ===== -/
/-! ===== BEGIN a private constructor of a nest mate that throws ===== -/
section VXIC
variable {p : Program} {l : Launch} {e : Env} {R : Room} {s : State} {m : MethodId} {args : Array Value} {below : List Frame} {meth : Method} {c : Code} {T : State} {locs : List Loc} {cells slots : Nat}
theorem vx_callIN (X : Stand p l e R s m args below meth c T locs cells slots) (hexec : p.tables.exec = Jvm.exec) {own : String} {index : Nat} {host : String} {y : MethodName} {bytes : ByteArray} {maxL : Nat}
    (hown : s.vm.findClass own = some m.cls) (hy1 : y.name = "<init>") (hlink : (Cond.methodLinkNest own index y host).before args s = true) (hinst : (Cond.instanceMethod y).before args s = true)
    (hcode : (Cond.code y bytes maxL none).before args s = true) (hy : y.cls ≠ "java/lang/invoke/MethodHandle" ∧ y.cls ≠ "java/lang/invoke/VarHandle")
    {W9 : Nat} {Pre : Pt → Array Value → Prop} {Post : Pt → Array Value → Option Value → Pt → Prop} {PostX : Pt → Array Value → Addr → Pt → Prop} (hK : vx_Back l R p e below s args y 3 W9 Pre Post PostX)
    {g : JFrame} (hg : g.method = m) (hsize : g.locals.size = c.maxLocals) {a : Addr} {argsL rest : List Value} (hlen : ∀ sig, parseMethodDescriptor y.desc = some sig → argsL.length = sig.parameters.length)
    (hstack : g.stack = argsL.reverse ++ .ref a :: rest) (hW : 2 * g.monitorRoom + (rest.map fun v => v.category).sum ≤ W9) (hdg : decode c.code g.pc = .ok (.invokespecial index, 3))
    (hpre : ∀ vm₁, s.WarmedH vm₁ → Pre ⟨T.setVm vm₁, locs, cells, slots⟩ (Value.ref a :: argsL).toArray) :
    (∃ (v : Option Value) (vm₁ : Vm) (B : Pt), s.WarmedH vm₁ ∧ Stand p l e R s m args below meth c B.U B.locs B.cells B.slots ∧ Post ⟨T.setVm vm₁, locs, cells, slots⟩ (Value.ref a :: argsL).toArray v B ∧
      ∀ target, Steps p.tables e below (B.U.setTop { g with pc := g.pc + 3, stack := v.toList ++ rest }) target → Steps p.tables e below (T.setTop g) target) ∨
    (∃ (q : Addr) (vm₁ : Vm) (B : Pt), s.WarmedH vm₁ ∧ Stand p l e R s m args below meth c B.U B.locs B.cells B.slots ∧ PostX ⟨T.setVm vm₁, locs, cells, slots⟩ (Value.ref a :: argsL).toArray q B ∧
      Steps p.tables e below (T.setTop g) ((B.U.setTop { g with stack := rest }).pushFrame (.throwing q))) := by
  subst hg
  have hpl : e.platform.magicAccessors = ({} : Platform).magicAccessors := by rw [X.admits.platform]
  obtain ⟨mk, methM, cM, kP, vm₁, hnamed, hmethM, hcodeM, -, hlocalsM, -, hkP, -, hW₁, hstep₁⟩ := Steps.initColdArgsNest (e := e) X.here hexec X.warmed hpl hown hy1 hy hlink hinst hcode (f := g) rfl hlen hstack hdg
  have X₁ := X.noted hW₁
  rcases hK g.method meth c ⟨T.setVm vm₁, locs, cells, slots⟩ { g with stack := rest } (.invokespecial index) mk (Value.ref a :: argsL).toArray X₁ rfl hsize hdg hW (X₁.named hnamed) (hpre vm₁ X₁.warmed) with ⟨v, B, X', hpost, hsteps⟩ | ⟨q, B, X', hpost, hsteps⟩
  · exact Or.inl ⟨v, vm₁, B, X₁.warmed, X', hpost, fun target h => hstep₁ _ fun acts => by rw [doInvoke_state]; exact hsteps.trans h⟩
  · exact Or.inr ⟨q, vm₁, B, X₁.warmed, X', hpost, hstep₁ _ fun acts => by rw [doInvoke_state]; exact hsteps⟩
end VXIC
section VXID
variable {p : Program} {l : Launch} {e : Env} {R : Room} {s : State} {m : MethodId} {args : Array Value} {below : List Frame} {meth : Method} {c : Code} {H : Heap} {locs : List Loc} {cells slots : Nat}
theorem vx_runIN {y : MethodName} {bytes cc : ByteArray} {maxL nL mc ms n index : Nat} {ws : List Cond} {rm : Room} {Pc : Array Value → State → Prop} {Qc : Array Value → State → Outcome → State → Prop} {XC : String → State → State → Prop} {free : Addr → Prop} {Ts : List Cond} {own host : String} {b : Addr} {As rest : List Value} {g : JFrame}
    (S : CallFix p m c cc nL s args Ts own) (hM : vx_Met l y ws rm Pc Qc XC mc ms free) (cw : va_CN R s args own index y host bytes maxL none ws rm mc ms n ∧ y.name = "<init>" ∧ (Cond.instanceMethod y).before args s = true) (hp : PreS s H Pc (.ref b :: As))
    (hg : g.method = m) (hn : As.length = n) (hsize : g.locals.size = nL) (hstack : g.stack = As.reverse ++ .ref b :: rest) (hW : 2 * g.monitorRoom + (rest.map fun v => v.category).sum ≤ 8) (hdg : decode cc g.pc = .ok (.invokespecial index, 3)) (hf : cells + mc ≤ R.cells ∧ slots + ms ≤ R.slots) :
    vx_Run p l e R s m args below meth c H locs cells slots mc ms g rest (Qc (Value.ref b :: As).toArray) XC free := by
  obtain ⟨⟨⟨hrc, hrs, hfr, hlo, hws, hcw⟩, hcode, hini, hy, hlen, hl⟩, hx1, hx2⟩ := cw
  have hK : vx_Back l R p e below s args y 3 8 (PreOf R mc ms Pc) (PostOf Qc mc ms free) (vx_Post XC mc ms free) := vx_back (bytes := bytes) (maxL := maxL) (ret := none) hM hp.1 hrc hrs hfr hlo hws hcw (fun a' U hW => word_at hW (Or.inl (by first | rfl | simp [Cond.onTables, Cond.keeps, Cond.steady])) hini)
  obtain ⟨hx, hb, hml, ho, -⟩ := S
  have hPc := hp.2
  intro T hT X
  rcases vx_callIN X hx (bytes := bytes) (maxL := maxL) ho hx1 hl hx2 hcode hy hK hg (hsize.trans hml.symm) (a := b) (argsL := As) (rest := rest) (fun sig h => hn.trans (hlen sig h)) hstack hW (by rw [hb]; exact hdg)
    (fun vm₁ hW₁ => ⟨hf.1, hf.2, hPc (T.setVm vm₁) hT hW₁⟩) with ⟨v, vm₁, ⟨U', l2, c2, s2⟩, hW₁, X', ⟨g', mk, t, L, e1, e2, hq, h1, hL, h2, h3⟩, st⟩ | ⟨q, vm₁, ⟨U', l2, c2, s2⟩, hW₁, X', ⟨g', mk, t, L, E, ce, e1, e2, hq, hce, hcv, hcl, h1, hL, h2, h3⟩, st⟩
  · dsimp only [Pt.U, Pt.locs, Pt.cells, Pt.slots] at X' e1 e2 h1 h2 h3 st
    subst h1; subst h2; subst h3
    exact Or.inl ⟨v, (T.setVm vm₁).calling g' mk (Value.ref b :: As).toArray, t, U', L, hT, X', hL, e1, e2, hq, st⟩
  · dsimp only [Pt.U, Pt.locs, Pt.cells, Pt.slots] at X' e1 e2 h1 h2 h3 st hcl
    subst h1; subst h2; subst h3
    exact Or.inr ⟨q, (T.setVm vm₁).calling g' mk (Value.ref b :: As).toArray, t, U', L, E, ce, hT, X', hL, e1, e2, hq, hce, hcv, vx_cls hW₁ hcl, st⟩
end VXID
/-! ===== END ===== -/
end
section
/-! a throw of an exception whose constructor links its superclass's at a place of its own (mg_ctorX follows the proof of the library's ctorThrowS, mg_throwX that of the kit's row vx_throwS; only the first link differs) -/
def mg_chX (X : String) (ix : Nat) (rx : ByteArray) : List String → List Cond
  | [] => Bundle.passSAtoms X Bundle.tN ix rx
  | Y :: r => Bundle.passSAtoms X Y ix rx ++ Bundle.chainSAtoms Y r
theorem mg_chainX {args : Array Value} {s : State} {pl : Platform} (hpl : pl.magicAccessors = ({} : Platform).magicAccessors) {top : MethodId} (htop : s.methodNamed? (Bundle.initS Bundle.tN) = some top)
    {ix : Nat} {rx : ByteArray} (x0 : decode rx 0 = .ok (.aload_n 0, 1)) (x1 : decode rx 1 = .ok (.aload_n 1, 1)) (x2 : decode rx 2 = .ok (.invokespecial ix, 3)) (x5 : decode rx 5 = .ok (.return_, 1)) :
    ∀ (names : List String) (X : String), Bundle.fit X = true → (∀ n ∈ names, Bundle.fit n = true) → (∀ c ∈ mg_chX X ix rx names, c.before args s = true) →
      ∃ (P1 : PassC) (Ps : List PassC), Ps.length = names.length ∧ P1.LinksS pl s ∧ (∀ P, P ∈ Ps → P.LinksS pl s) ∧ s.methodNamed? (Bundle.initS X) = some P1.m ∧
        P1.sup = firstOf top (Ps.map (·.toPassT)) ∧ PassesOn top (Ps.map (·.toPassT)) := by
  intro names X hX hn h
  match names, hn, h with
  | [], _, h =>
    obtain ⟨P, L, hm, hs⟩ := PassC.ofS_atoms (args := args) (s := s) hpl (X := X) (Y := Bundle.tN) (Bundle.fit_spec hX).1 (by decide) x0 x1 x2 x5 h
    exact ⟨P, [], rfl, L, (fun _ hP => by cases hP), hm, Option.some.inj (hs.symm.trans htop), trivial⟩
  | Y :: r, hn, h =>
    have hY := hn Y List.mem_cons_self
    obtain ⟨P, L, hm, hs⟩ := PassC.ofS_atoms (args := args) (s := s) hpl (X := X) (Y := Y) (Bundle.fit_spec hX).1 (Bundle.fit_spec hY).2 x0 x1 x2 x5 (fun c hc => h c (List.mem_append_left _ hc))
    obtain ⟨P', Ps, hlen, L', hL, hm', hsup, hpass⟩ := Bundle.chainS (args := args) hpl htop r Y hY (fun n hn' => hn n (List.mem_cons_of_mem _ hn')) (fun c hc => h c (List.mem_append_right _ hc))
    refine ⟨P, P' :: Ps, by rw [List.length_cons, List.length_cons, hlen], L, fun Q hQ => ?_, hm, Option.some.inj (hs.symm.trans hm'), hsup, hpass⟩
    rcases List.mem_cons.mp hQ with rfl | hQ
    · exact L'
    · exact hL Q hQ
def mg_ownX (own : String) (ic : Nat) (X : String) (ix : Nat) (rx : ByteArray) (names : List String) : List Cond :=
  Bundle.throwableAtoms ++ Bundle.throwableSAtoms ++ mg_chX X ix rx names ++
  [.methodLink own ic (Bundle.initS X), .instantiable X 6, .castable X X, .selects X Bundle.tFill0 Bundle.tFill0, .selects X Bundle.tFill Bundle.tFill] ++
  [.lays X Bundle.tN "cause" "Ljava/lang/Throwable;", .lays X Bundle.tN "stackTrace" Bundle.steD, .lays X Bundle.tN "suppressedExceptions" Bundle.listD, .lays X Bundle.tN "detailMessage" "Ljava/lang/String;",
   .isRef (.static Bundle.tN "UNASSIGNED_STACK" Bundle.steD), .isRef (.static Bundle.tN "SUPPRESSED_SENTINEL" Bundle.listD), .fieldLink Bundle.tN 198 Bundle.tN "backtrace" "Ljava/lang/Object;", .lays Bundle.tN Bundle.tN "backtrace" "Ljava/lang/Object;", .lays X Bundle.tN "backtrace" "Ljava/lang/Object;"]
section MGX
variable {p : Program} {l : Launch} {e : Env} {R : Room} {s : State} {m₀ : MethodId} {args : Array Value} {below : List Frame} {meth : Method} {c : Code} {W : State} {locs : List Loc} {cells slots : Nat}
set_option maxHeartbeats 4000000 in
theorem mg_ctorX {ix : Nat} {rx : ByteArray} (x0 : decode rx 0 = .ok (.aload_n 0, 1)) (x1 : decode rx 1 = .ok (.aload_n 1, 1)) (x2 : decode rx 2 = .ok (.invokespecial ix, 3)) (x5 : decode rx 5 = .ok (.return_, 1)) (X : Stand p l e R s m₀ args below meth c W locs cells slots) (hexec : p.tables.exec = Jvm.exec) (htr : e.platform.stackTraces = false) {own cls : String} {names : List String} {ic : Nat}
    (hown : s.vm.findClass own = some m₀.cls) (hcls : Bundle.fit cls = true) (hnames : ∀ n ∈ names, Bundle.fit n = true)
    (h : ∀ a ∈ mg_ownX own ic cls ix rx names, a.before args s = true)
    (hlocs : ∀ x ∈ locs, ∀ cell, s.heap[x.base]? = some cell → cell.vm.isStatics = false)
    {a : Addr} {cX : ClassId} {kX : Class} (hfoundX : s.vm.findClass cls = some cX) (hkX : s.vm.classes[cX]? = some kX) (hcell : W.heap[a]? = some (freshCell cX kX)) (hnew : s.heap.size ≤ a)
    {msg : Value} (hmsg : msg.isRef = true)
    {g : JFrame} (hg : g.method = m₀) (hsize : g.locals.size = c.maxLocals) (hlocked : g.locked = none) (hentered : g.entered = []) {rest : List Value} (hstack : g.stack = msg :: .ref a :: .ref a :: rest)
    (hd6 : decode c.code g.pc = .ok (.invokespecial ic, 3)) (hd9 : decode c.code (g.pc + 3) = .ok (.athrow, 1)) (hout : ∀ x ∈ c.exceptionTable.toList, covers x (g.pc + 3) = false)
    (hRframes : names.length + 3 < R.frames) (hRlocals : 2 * g.monitorRoom + ((Value.ref a :: rest).map fun v => v.category).sum + (13 * (names.length + 1) + 42) ≤ R.locals) (hlocks : meth.locks = false) :
    ∃ U : State, Steps p.tables e below (W.setTop g) U ∧ U.status = .running ∧ Ended U below (.threw a) ∧ s.WarmedH U.vm ∧ s.sameButNew ({ U with vm := s.vm } : State) locs cells slots ∧
      ∃ ce, U.heap[a]? = some ce ∧ Bundle.OwnCell args s cls a msg ce := by
  have howns : e.platform.frameOwnsMonitors = true := by rw [X.admits.platform]
  have hfin : e.platform.finalization = false := by rw [X.admits.platform]
  have hpl : e.platform.magicAccessors = ({} : Platform).magicAccessors := by rw [X.admits.platform]
  have a' : ∀ x, x ∈ mg_ownX own ic cls ix rx names → x.holds args s none s [] = true := fun x hx => h x hx
  obtain ⟨T, Z0, L, -, Y⟩ := ThrowableC.of_atoms (args := args) howns hfin hpl (fun x hx => h x (by simp [mg_ownX, hx]))
  obtain ⟨Z, M, LZ, LM, hnZ⟩ := Init0T.ofS_atoms (args := args) hpl L Y (fun x hx => h x (by simp [mg_ownX, hx]))
  obtain ⟨P1, Ps, hlen, L1, hL, hP1m, hlink1, hlink⟩ := mg_chainX (args := args) hpl hnZ x0 x1 x2 x5 names cls hcls hnames (fun x hx => h x (by simp [mg_ownX, hx]))
  have hfound : s.vm.findClass cls = some P1.m.cls := findClass_of_methodNamed hP1m
  cases Option.some.inj (hfoundX.symm.trans hfound)
  obtain ⟨c1, kX', hc1, hk, hord, -, -, hn6⟩ := Cond.instantiable_spec (a' (.instantiable cls 6) (by simp [mg_ownX]))
  cases Option.some.inj (hc1.symm.trans hfound)
  cases Option.some.inj (hkX.symm.trans hk)
  have hsel0 : selectMethod e.platform s.vm P1.m.cls T.fill0 = .method T.fill0 := by
    obtain ⟨c2, r2, m2, q1, q2, q3, q4, -⟩ := Cond.selects_spec (a' (.selects cls Bundle.tFill0 Bundle.tFill0) (by simp [mg_ownX]))
    cases Option.some.inj (q1.symm.trans hfound)
    cases Option.some.inj (q2.symm.trans (State.methodFound?_of_named Y.fill0 (by decide)))
    cases Option.some.inj (q3.symm.trans Y.fill0)
    rw [Launch.admits_selectMethod X.admits]; exact q4
  have hselF : selectMethod e.platform s.vm P1.m.cls T.fill = .method T.fill := by
    obtain ⟨c2, r2, m2, q1, q2, q3, q4, -⟩ := Cond.selects_spec (a' (.selects cls Bundle.tFill Bundle.tFill) (by simp [mg_ownX]))
    cases Option.some.inj (q1.symm.trans hfound)
    cases Option.some.inj (q2.symm.trans (State.methodFound?_of_named Y.fill (by decide)))
    cases Option.some.inj (q3.symm.trans Y.fill)
    rw [Launch.admits_selectMethod X.admits]; exact q4
  obtain ⟨cellS0, hcS0, hiss⟩ := Y.statics
  obtain ⟨u0, hu0⟩ := Cond.staticRefV Y.unassigned L.unassignedStatic L.statics hcS0 hiss (a' (.isRef (.static Bundle.tN "UNASSIGNED_STACK" Bundle.steD)) (by simp [mg_ownX]))
  obtain ⟨sen, hsen⟩ := Cond.staticRefV Y.sentinel L.sentinelStatic L.statics hcS0 hiss (a' (.isRef (.static Bundle.tN "SUPPRESSED_SENTINEL" Bundle.listD)) (by simp [mg_ownX]))
  obtain ⟨ci198, i198, fB, hk198, hg198, ha198, hsB, -, hnB, htB, hffB⟩ := Cond.ownField (t := .object "java/lang/Object") Y.found L.cls (by decide +kernel) (a' (.fieldLink Bundle.tN 198 Bundle.tN "backtrace" "Ljava/lang/Object;") (by simp [mg_ownX])) (a' (.lays Bundle.tN Bundle.tN "backtrace" "Ljava/lang/Object;") (by simp [mg_ownX])) e.platform hpl
  obtain ⟨cellS, hcS', heS, -, hkeep⟩ := X.same.2.2.2.2.2 T.aS cellS0 hcS0
  have hcellS : W.heap[T.aS]? = some cellS := hcS'
  have hout' : ∀ i, (⟨T.aS, i⟩ : Loc) ∉ locs := fun i hmem => by
    have := hlocs _ hmem cellS0 hcS0
    rw [hiss] at this; cases this
  have hknownS : cellS.vm ≠ .unknown := by
    rw [heS]; intro hu
    rw [show cellS0.vm = .unknown from hu] at hiss
    cases hiss
  have hneS : T.aS ≠ a := Nat.ne_of_lt (Nat.lt_of_lt_of_le (Array.getElem?_eq_some_iff.mp hcS0).1 hnew)
  obtain ⟨iM, hffM⟩ := Y.msg
  obtain ⟨tyC, dC, hdC, hdnC⟩ := Cond.laysAt hfound hk Y.cause (a' (.lays cls Bundle.tN "cause" "Ljava/lang/Throwable;") (by simp [mg_ownX]))
  obtain ⟨tyS, dS, hdS, hdnS⟩ := Cond.laysAt hfound hk Y.stack (a' (.lays cls Bundle.tN "stackTrace" Bundle.steD) (by simp [mg_ownX]))
  obtain ⟨tyP, dP, hdP, hdnP⟩ := Cond.laysAt hfound hk Y.supp (a' (.lays cls Bundle.tN "suppressedExceptions" Bundle.listD) (by simp [mg_ownX]))
  obtain ⟨tyM, dM, hdM, hdnM⟩ := Cond.laysAt hfound hk hffM (a' (.lays cls Bundle.tN "detailMessage" "Ljava/lang/String;") (by simp [mg_ownX]))
  obtain ⟨tyB, dB, hdB, hdnB⟩ := Cond.laysAt hfound hk hffB (a' (.lays cls Bundle.tN "backtrace" "Ljava/lang/Object;") (by simp [mg_ownX]))
  have bC := Cond.laysApart hdB hdC hdnB hdnC (by rw [hnB, Y.causeName]; decide)
  have bS := Cond.laysApart hdB hdS hdnB hdnS (by rw [hnB, Y.stackName]; decide)
  have bP := Cond.laysApart hdB hdP hdnB hdnP (by rw [hnB, Y.suppName]; decide)
  have hskip : SkipFacts T e.platform s (fun u => u) u0 ((preparedCellV T.toThrowableT (freshCell P1.m.cls kX) a u0 sen).withEntry W.cur) :=
    ⟨{ ci198 := ci198, i198 := i198, fBack := fB }, ⟨hk198, hg198, ha198, hsB⟩, by
      have := fresh_default (c := P1.m.cls) tyB
      rw [htB] at this
      simpa [preparedCellV, Cell.setSlot, Cell.withEntry, Array.getElem?_setIfInBounds, bC, bS, bP, bC.symm, bS.symm, bP.symm, defaultValue] using this, fun _ _ => rfl⟩
  obtain ⟨tm, methC, cdC, kC, vm₁, hnC, -, -, -, -, -, -, -, hW₁, st1⟩ := Steps.initColdS (tb := p.tables) (e := e) (below := below) (s := s) (U := W) X.here hexec X.warmed hpl hown (t := Bundle.initS cls) rfl rfl (Bundle.fit_spec hcls).2
    (a' (.methodLink own ic (Bundle.initS cls)) (by simp [mg_ownX])) (h (.instanceMethod (Bundle.initS cls)) (by cases names <;> simp [mg_ownX, mg_chX, Bundle.passSAtoms])) (bytes := rx) (maxL := 2) (h (.code (Bundle.initS cls) rx 2 none) (by cases names <;> simp [mg_ownX, mg_chX, Bundle.passSAtoms]))
    (f := g) hg (a := a) (msg := msg) (rest := .ref a :: rest) hstack hd6
  cases Option.some.inj (hnC.symm.trans hP1m)
  have X₁ := X.noted hW₁
  obtain ⟨vm₂, X₂, st2⟩ := X₁.ctorMessageOffV hexec (g := { g with stack := .ref a :: rest }) hg hsize T L Z LZ M LM (P1 :: Ps)
    (fun P hP => by rcases List.mem_cons.mp hP with rfl | hP; exact L1; exact hL P hP) ⟨hlink1, hlink⟩ (u0 := u0) (sen := sen) (self := a) hmsg (cell := freshCell P1.m.cls kX) (cellS := cellS)
    hcell (fun _ => by simp) (by simp) rfl rfl hsel0 hselF hcellS hneS hknownS (by rw [hkeep _ (hout' _)]; exact hu0) (by rw [hkeep _ (hout' _)]; exact hsen)
    (Takes.of_laid hk hord tyC (by rw [Y.causeType]; rfl)) (Takes.of_laid hk hord tyS (by rw [Y.stackType]; exact fits_refV_array _ u0)) (Takes.of_laid hk hord tyP (by rw [Y.suppType]; exact fits_refV_object _ sen))
    (Takes.of_laid hk hord tyM (by rw [Y.msgType]; exact fits_refV_object _ ⟨msg, hmsg⟩)) Y.objLocals hskip htr [] hd6
    (by simp only [List.length_cons, hlen]; omega) (by simp only [List.length_cons, hlen]; exact hRlocals)
  obtain ⟨hwalk, hrun, hended, hWU, hsame⟩ := X₂.athrowLeaves hexec (g := { g with stack := .ref a :: rest, pc := g.pc + 3 }) hg hlocked hentered hout (a := a) (rest := rest) rfl hd9
  obtain ⟨c3, c4, hc3, hc4, hasg⟩ := Cond.castable_spec (a' (.castable cls cls) (by simp [mg_ownX]))
  cases Option.some.inj (hc3.symm.trans hfound)
  cases Option.some.inj (hc4.symm.trans hfound)
  have hlt : a < ((W.setVm vm₁).setVm vm₂).heap.size := (Array.getElem?_eq_some_iff.mp hcell).1
  have hU := heapAt_setCell_self (s := (W.setVm vm₁).setVm vm₂) (plainBareV T.toThrowableT (freshCell P1.m.cls kX) a u0 sen msg) hlt
  have hnM : T.fMsg.name = "detailMessage" := (State.fieldFound?_type hffM (t := .object "java/lang/String") (by decide +kernel)).1
  have nCS := Cond.laysApart hdC hdS hdnC hdnS (by rw [Y.causeName, Y.stackName]; decide)
  have nCP := Cond.laysApart hdC hdP hdnC hdnP (by rw [Y.causeName, Y.suppName]; decide)
  have nCM := Cond.laysApart hdC hdM hdnC hdnM (by rw [Y.causeName, hnM]; decide)
  have nSP := Cond.laysApart hdS hdP hdnS hdnP (by rw [Y.stackName, Y.suppName]; decide)
  have nSM := Cond.laysApart hdS hdM hdnS hdnM (by rw [Y.stackName, hnM]; decide)
  have nPM := Cond.laysApart hdP hdM hdnP hdnM (by rw [Y.suppName, hnM]; decide)
  have lC : T.fCause.slot < kX.instanceTypes.size := (Array.getElem?_eq_some_iff.mp tyC).1
  have lS : T.fStack.slot < kX.instanceTypes.size := (Array.getElem?_eq_some_iff.mp tyS).1
  have lP : T.fSupp.slot < kX.instanceTypes.size := (Array.getElem?_eq_some_iff.mp tyP).1
  have lM : T.fMsg.slot < kX.instanceTypes.size := (Array.getElem?_eq_some_iff.mp tyM).1
  have evU : ∀ o, (Term.static Bundle.tN "UNASSIGNED_STACK" Bundle.steD).eval args s o [] s = some u0.v := by
    intro o
    simp [Term.eval, State.fieldNamed?, Y.unassigned, L.unassignedStatic, L.statics, hcS0, hiss, hu0]
  have evS : ∀ o, (Term.static Bundle.tN "SUPPRESSED_SENTINEL" Bundle.listD).eval args s o [] s = some sen.v := by
    intro o
    simp [Term.eval, State.fieldNamed?, Y.sentinel, L.sentinelStatic, L.statics, hcS0, hiss, hsen]
  refine ⟨_, st1 _ (fun acts => ?_), hrun, hended, hWU, hsame.weaken (fun y hy hlt' => ?_) (Nat.le_refl _) (Nat.le_refl _), _, hU, ?_⟩
  · rw [doInvoke_state]
    exact st2 _ hwalk
  · rcases List.mem_append.mp hy with h1 | h1
    · exact h1
    · exfalso
      have hb : y.base = a := by
        simp only [List.mem_cons, List.not_mem_nil, or_false] at h1
        rcases h1 with rfl | rfl | rfl | rfl | rfl <;> rfl
      rw [hb] at hlt'
      exact Nat.not_lt.mpr hnew hlt'
  · exact { cls := hfound, self := hasg, monitor := rfl, hash := rfl, vm := rfl, size := by simp [plainBareV, preparedCellV, Cell.setSlot, hn6]
            cause := ⟨_, _, _, _, Y.cause, by simp [plainBareV, preparedCellV, Cell.setSlot, nCS.symm, nCP.symm, nCM.symm, lC]⟩
            stack := ⟨_, _, _, _, u0, Y.stack, by simp [plainBareV, preparedCellV, Cell.setSlot, nSM.symm, lS], evU⟩
            supp := ⟨_, _, _, _, sen, Y.supp, by simp [plainBareV, preparedCellV, Cell.setSlot, nSP, nPM.symm, lP], evS⟩
            msg := ⟨_, _, _, _, hffM, by simp [plainBareV, preparedCellV, Cell.setSlot, lM]⟩
            other := fun O f d c k i fd hf hy n1 n2 n3 n4 => by
              obtain ⟨ty, dd, hdd, hddn⟩ := Cond.laysAt hfound hk hf hy
              have m1 := Cond.laysApart hdd hdC hddn hdnC (by rw [Y.causeName]; exact n1)
              have m2 := Cond.laysApart hdd hdS hddn hdnS (by rw [Y.stackName]; exact n2)
              have m3 := Cond.laysApart hdd hdP hddn hdnP (by rw [Y.suppName]; exact n3)
              have m4 := Cond.laysApart hdd hdM hddn hdnM (by rw [hnM]; exact n4)
              have := fresh_default (c := P1.m.cls) ty
              simpa [plainBareV, preparedCellV, Cell.setSlot, Array.getElem?_setIfInBounds, m1, m2, m3, m4, m1.symm, m2.symm, m3.symm, m4.symm] using this }
end MGX
theorem mg_throwX {ix : Nat} {rx : ByteArray} (x0 : decode rx 0 = .ok (.aload_n 0, 1)) (x1 : decode rx 1 = .ok (.aload_n 1, 1)) (x2 : decode rx 2 = .ok (.invokespecial ix, 3)) (x5 : decode rx 5 = .ok (.return_, 1)) {p : Program} {l : Launch} {e : Env} {R : Room} {s : State} {m : MethodId} {args : Array Value} {below : List Frame} {meth : Method} {c : Code} {H : Heap} {locs : List Loc} {cells slots : Nat} {free : Addr → Prop} {ls : Array Slot} {rest : List Value} {Qc : Array Value → State → Outcome → State → Prop} {XC : String → State → State → Prop} {cc : ByteArray} {pc : Nat} (hexec : p.tables.exec = Jvm.exec) (hb : c.code = cc) (hl : l.stackTraces = false) {own cls text : String} {names : List String} {ik is ic mc ms sa : Nat} {A : Nat → Prop}
    (hown : s.vm.findClass own = some m.cls) (hcls : Bundle.fit cls = true) (hnames : ∀ n ∈ names, Bundle.fit n = true)
    (hk : (Cond.classLink own ik cls).before args s = true) (hini : (Cond.initialized cls).before args s = true) (hstr : vk_R own is text sa s) (hat : ∀ w ∈ (mg_ownX own ic cls ix rx names).filter vx_no, w.before args s = true)
    (hgood : ∀ w ∈ Cond.classLink own ik cls :: Cond.initialized cls :: ((mg_ownX own ic cls ix rx names).filter vx_no), vx_ot w = true)
    (hU : vx_Zq Bundle.tN "UNASSIGNED_STACK" Bundle.steD A s s.heap) (hN : vx_Zq Bundle.tN "SUPPRESSED_SENTINEL" Bundle.listD A s s.heap) (hS : va_S A s.heap H locs) (hsize : ls.size = c.maxLocals)
    (d0 : decode cc pc = .ok (.new ik, 3)) (d3 : decode cc (pc + 3) = .ok (.dup, 1)) (d4 : decode cc (pc + 4) = .ok (.ldc_w is, 3)) (d7 : decode cc (pc + 7) = .ok (.invokespecial ic, 3)) (d10 : decode cc (pc + 10) = .ok (.athrow, 1))
    (hout : ∀ x ∈ c.exceptionTable.toList, covers x (pc + 10) = false)
    (hRframes : names.length + 3 < R.frames) (hRlocals : (rest.map fun v => v.category).sum + (13 * (names.length + 1) + 43) ≤ R.locals) (hRcells : cells + 1 ≤ R.cells) (hRslots : slots + 6 ≤ R.slots) (hlocks : meth.locks = false)
    (hx : ∀ t : State, s.vm.Alike t.vm → H.size ≤ t.heap.size → (∀ q : Nat, q < H.size → t.heap[q]? = H[q]?) → XC cls s t)
    (hf : ∀ z ∈ locs, free z.base) (hc : cells + 1 ≤ mc) (hs : slots + 6 ≤ ms) :
    W p l e R s m args below meth c H locs cells slots (vx_MQ below Qc XC args s mc ms free) (F0 m pc ls rest) := by
  intro T hT X
  have htr : e.platform.stackTraces = false := (show e.platform.stackTraces = l.stackTraces by rw [X.admits.platform]).trans hl
  have Y := vx_rebase X (R' := { frames := R.frames, locals := R.locals, cells := 1, slots := 6 }) (Nat.le_refl _) (Nat.le_refl _) hRcells hRslots
  obtain ⟨s', hA⟩ : ∃ z, z = (T.setVm s.vm).setFrames (.invoking m args :: below) := ⟨_, rfl⟩
  rw [← hA] at Y
  have hvm : s'.vm = s.vm := by rw [hA]; rfl
  have hhp : s'.heap = H := by rw [hA]; exact hT
  have hW0 : s.WarmedH s'.vm := by rw [hvm]; exact State.WarmedH.refl s
  have hat' : ∀ w ∈ (mg_ownX own ic cls ix rx names).filter vx_no, w.before args s' = true := fun w hw => vx_ot_at hW0 hvm.symm (hgood w (List.mem_cons_of_mem _ (List.mem_cons_of_mem _ hw))) (hat w hw)
  have hk' : (Cond.classLink own ik cls).before args s' = true := vx_ot_at hW0 hvm.symm (hgood _ List.mem_cons_self) hk
  have hini' : (Cond.initialized cls).before args s' = true := vx_ot_at hW0 hvm.symm (hgood _ (List.mem_cons_of_mem _ List.mem_cons_self)) hini
  have hU' : vx_Zq Bundle.tN "UNASSIGNED_STACK" Bundle.steD A s' s'.heap := by rw [hhp]; exact vx_Zq.moved hW0.alike (hU.kept hS.2.1)
  have hN' : vx_Zq Bundle.tN "SUPPRESSED_SENTINEL" Bundle.listD A s' s'.heap := by rw [hhp]; exact vx_Zq.moved hW0.alike (hN.kept hS.2.1)
  have h : ∀ w ∈ mg_ownX own ic cls ix rx names, w.before args s' = true := vx_own hat' (vx_isRefq hU'.1) (vx_isRefq hN'.1) hU'.2.word hN'.2.word
  have hown' : s'.vm.findClass own = some m.cls := by rw [hvm]; exact hown
  have hins : (Cond.instantiable cls 6).before args s' = true := h _ (by simp [mg_ownX])
  obtain ⟨vm₁, cX, kX, hfX, hkX, -, -, X₁, st1⟩ := Y.newCold hexec (own := own) (C := cls) (index := ik) (n := 6) hown' hk' hins hini'
    (g := F0 m pc ls rest) rfl (by rw [hb]; exact d0) (Nat.le_refl _) (Nat.le_refl _)
  generalize hT1 : (T.setVm vm₁).pushCell { cls := cX, slots := kX.instanceTypes.map defaultValue, vm := .none } = T1 at X₁ st1
  have hcat : (Value.ref T.heap.size).category = 1 := rfl
  have hcellA : T1.heap[T.heap.size]? = some (freshCell cX kX) := by rw [← hT1]; exact State.heap_pushCell_size _ _
  have d3' : decode c.code (pc + 3) = .ok (.dup, 1) := by rw [hb]; exact d3
  have d4' : decode c.code (pc + 4) = .ok (.ldc_w is, 3) := by rw [hb]; exact d4
  have hstr' : vk_R own is text sa s' := vk_R.warm hW0 hstr
  obtain ⟨U, hsteps, hrun, hend, hW, hsame, ce, hce, hO⟩ := mg_ctorX x0 x1 x2 x5 X₁ hexec htr (own := own) (cls := cls) (names := names) (ic := ic) hown' hcls hnames h (fun x hx => nomatch hx) hfX hkX hcellA (by rw [hhp, hT]; exact Nat.le_refl _) (msg := .ref sa) rfl
    (g := { method := m, pc := pc + 7, locals := ls, stack := .ref sa :: .ref T.heap.size :: .ref T.heap.size :: rest, locked := none }) rfl hsize rfl rfl (rest := rest) rfl
    (by rw [hb]; exact d7) (by rw [hb]; exact d10) hout hRframes (by simp only [List.map_cons, List.sum_cons, hcat]; omega) hlocks
  obtain ⟨f1, f2⟩ := vx_frame hsame
  rw [hhp] at f1 f2
  have hWs : s.WarmedH U.vm := State.WarmedH.trans hW0 hW
  have hcl : s.vm.findClass cls = some ce.cls := by
    have h9 := hO.cls
    rw [hvm] at h9
    exact h9
  have hall : s.sameButNew ({ U with vm := s.vm } : State) locs mc ms := by
    subst hA
    obtain ⟨e1, e2⟩ := hsame
    rw [State.setFrames_setFrames] at e1
    have h2 : (T.setVm s.vm).sameButNew ({ U with vm := s.vm } : State) [] (0 + 1) (0 + 6) := ⟨e1, e2⟩
    have h3 := X.same.trans h2
    rw [List.append_nil] at h3
    exact h3.mono hc hs
  refine ⟨U, ?_, .threw T.heap.size, hrun, hend, Or.inr ⟨T.heap.size, rfl, cls, ce, locs, hx U hWs.alike f1 (fun q hq => f2 q hq (fun z hz => nomatch hz)), hce, hO.vm, hcl, hWs, hall, hf⟩⟩
  refine st1 _ ?_
  show Steps p.tables e below (T1.setTop { method := m, pc := pc + 3, locals := ls, stack := .ref T.heap.size :: rest, locked := none }) _
  jvm_step X₁.here [X₁.here.top, hexec, d3', Value.category]
  exact X₁.ldcStringW hexec (own := own) (text := text) (index := is) (a := sa) hown' hstr'.1 hstr'.2
    (g := { method := m, pc := pc + 4, locals := ls, stack := .ref T.heap.size :: .ref T.heap.size :: rest, locked := none }) rfl d4' _ hsteps
end
section
def RX0 : String := "MergeGrid$Area"
def TX0 : u_T := fun k => match k with
  | 0 => ("MergeGrid$Area", "top", "I", false)
  | 1 => ("MergeGrid$Area", "left", "I", false)
  | 2 => ("MergeGrid$Area", "bottom", "I", false)
  | _ => ("MergeGrid$Area", "right", "I", false)
def tyX0 : Nat → FieldType := fun k => match k with
  | 0 => .int
  | 1 => .int
  | 2 => .int
  | _ => .int
abbrev wsX00 : List Cond := u_ws RX0 TX0 4
theorem nmX0 : ∀ a, a < 4 → ∀ b, b < 4 → a ≠ b → (TX0 a).2.1 ≠ (TX0 b).2.1 := by decide +kernel
theorem tyX0_ok : ∀ k, k < 4 → parseFieldDescriptor (TX0 k).2.2.1 = some (tyX0 k) := by decide +kernel
def RX1 : String := "MergeGrid$Block"
def TX1 : u_T := fun k => match k with
  | 0 => ("MergeGrid$Block", "rows", "I", false)
  | 1 => ("MergeGrid$Block", "columns", "I", false)
  | _ => ("MergeGrid$Block", "cells", "LMergeGrid$CellList;", true)
def tyX1 : Nat → FieldType := fun k => match k with
  | 0 => .int
  | 1 => .int
  | _ => .object "MergeGrid$CellList"
abbrev wsX10 : List Cond := u_ws RX1 TX1 3
theorem nmX1 : ∀ a, a < 3 → ∀ b, b < 3 → a ≠ b → (TX1 a).2.1 ≠ (TX1 b).2.1 := by decide +kernel
theorem tyX1_ok : ∀ k, k < 3 → parseFieldDescriptor (TX1 k).2.2.1 = some (tyX1 k) := by decide +kernel
def RX2 : String := "MergeGrid$Cell"
def TX2 : u_T := fun k => match k with
  | 0 => ("MergeGrid$Cell", "top", "I", false)
  | 1 => ("MergeGrid$Cell", "left", "I", false)
  | 2 => ("MergeGrid$Cell", "rows", "I", false)
  | 3 => ("MergeGrid$Cell", "columns", "I", false)
  | 4 => ("MergeGrid$Cell", "content", "I", false)
  | _ => ("MergeGrid$Cell", "style", "I", false)
def tyX2 : Nat → FieldType := fun k => match k with
  | 0 => .int
  | 1 => .int
  | 2 => .int
  | 3 => .int
  | 4 => .int
  | _ => .int
abbrev wsX20 : List Cond := u_ws RX2 TX2 6
theorem nmX2 : ∀ a, a < 6 → ∀ b, b < 6 → a ≠ b → (TX2 a).2.1 ≠ (TX2 b).2.1 := by decide +kernel
theorem tyX2_ok : ∀ k, k < 6 → parseFieldDescriptor (TX2 k).2.2.1 = some (tyX2 k) := by decide +kernel
def RX3 : String := "MergeGrid$CellList"
def TX3 : u_T := fun k => match k with
  | 0 => ("MergeGrid$CellList", "size", "I", false)
  | 1 => ("MergeGrid$CellList", "cells", "[LMergeGrid$Cell;", true)
  | _ => ("MergeGrid$CellList", "nowhere", "LMergeGrid$Cell;", true)
def tyX3 : Nat → FieldType := fun k => match k with
  | 0 => .int
  | 1 => .array (.object "MergeGrid$Cell")
  | _ => .object "MergeGrid$Cell"
abbrev wsX30 : List Cond := u_ws RX3 TX3 3
theorem nmX3 : ∀ a, a < 3 → ∀ b, b < 3 → a ≠ b → (TX3 a).2.1 ≠ (TX3 b).2.1 := by decide +kernel
theorem tyX3_ok : ∀ k, k < 3 → parseFieldDescriptor (TX3 k).2.2.1 = some (tyX3 k) := by decide +kernel
def RX4 : String := "MergeGrid$Table"
def TX4 : u_T := fun k => match k with
  | 0 => ("MergeGrid$Table", "rows", "I", false)
  | 1 => ("MergeGrid$Table", "columns", "I", false)
  | 2 => ("MergeGrid$Table", "header", "I", false)
  | 3 => ("MergeGrid$Table", "heights", "[I", true)
  | 4 => ("MergeGrid$Table", "widths", "[I", true)
  | 5 => ("MergeGrid$Table", "cells", "LMergeGrid$CellList;", true)
  | 6 => ("MergeGrid$Table", "owners", "[I", true)
  | 7 => ("MergeGrid$Table", "places", "[I", true)
  | _ => ("MergeGrid$Table", "oldHeights", "[I", true)
def tyX4 : Nat → FieldType := fun k => match k with
  | 0 => .int
  | 1 => .int
  | 2 => .int
  | 3 => .array .int
  | 4 => .array .int
  | 5 => .object "MergeGrid$CellList"
  | 6 => .array .int
  | 7 => .array .int
  | _ => .array .int
abbrev wsX40 : List Cond := u_ws RX4 TX4 9
theorem nmX4 : ∀ a, a < 9 → ∀ b, b < 9 → a ≠ b → (TX4 a).2.1 ≠ (TX4 b).2.1 := by decide +kernel
theorem tyX4_ok : ∀ k, k < 9 → parseFieldDescriptor (TX4 k).2.2.1 = some (tyX4 k) := by decide +kernel
def RX5 : String := "MergeGrid"
def TX5 : u_T := fun k => match k with
  | 0 => ("MergeGrid", "now", "LMergeGrid$Table;", false)
  | 1 => ("MergeGrid", "before", "LMergeGrid$Table;", false)
  | 2 => ("MergeGrid", "hasChange", "Z", false)
  | 3 => ("MergeGrid", "selection", "LMergeGrid$Area;", true)
  | 4 => ("MergeGrid", "sketch", "LMergeGrid$Area;", true)
  | _ => ("MergeGrid", "block", "LMergeGrid$Block;", true)
def tyX5 : Nat → FieldType := fun k => match k with
  | 0 => .object "MergeGrid$Table"
  | 1 => .object "MergeGrid$Table"
  | 2 => .boolean
  | 3 => .object "MergeGrid$Area"
  | 4 => .object "MergeGrid$Area"
  | _ => .object "MergeGrid$Block"
abbrev wsX50 : List Cond := u_ws RX5 TX5 6
theorem nmX5 : ∀ a, a < 6 → ∀ b, b < 6 → a ≠ b → (TX5 a).2.1 ≠ (TX5 b).2.1 := by decide +kernel
theorem tyX5_ok : ∀ k, k < 6 → parseFieldDescriptor (TX5 k).2.2.1 = some (tyX5 k) := by decide +kernel
def RX6 : String := "MergeGridModel"
def TX6 : u_T := fun k => match k with
  | 0 => ("MergeGridModel", "thrown", "I", false)
  | 1 => ("MergeGridModel", "rows", "I", false)
  | 2 => ("MergeGridModel", "cols", "I", false)
  | 3 => ("MergeGridModel", "head", "I", false)
  | 4 => ("MergeGridModel", "many", "I", false)
  | 5 => ("MergeGridModel", "ids", "[I", true)
  | 6 => ("MergeGridModel", "contents", "[I", true)
  | 7 => ("MergeGridModel", "styles", "[I", true)
  | 8 => ("MergeGridModel", "widths", "[I", true)
  | 9 => ("MergeGridModel", "heights", "[I", true)
  | 10 => ("MergeGridModel", "isChanged", "Z", false)
  | 11 => ("MergeGridModel", "oldRows", "I", false)
  | 12 => ("MergeGridModel", "oldCols", "I", false)
  | 13 => ("MergeGridModel", "oldHead", "I", false)
  | 14 => ("MergeGridModel", "oldIds", "[I", true)
  | 15 => ("MergeGridModel", "oldContents", "[I", true)
  | 16 => ("MergeGridModel", "oldStyles", "[I", true)
  | 17 => ("MergeGridModel", "oldWidths", "[I", true)
  | 18 => ("MergeGridModel", "oldHeights", "[I", true)
  | 19 => ("MergeGridModel", "aside", "[I", true)
  | 20 => ("MergeGridModel", "map", "[I", true)
  | 21 => ("MergeGridModel", "top", "I", false)
  | 22 => ("MergeGridModel", "bottom", "I", false)
  | 23 => ("MergeGridModel", "left", "I", false)
  | 24 => ("MergeGridModel", "right", "I", false)
  | 25 => ("MergeGridModel", "copyRows", "I", false)
  | 26 => ("MergeGridModel", "copyCols", "I", false)
  | 27 => ("MergeGridModel", "copyMany", "I", false)
  | 28 => ("MergeGridModel", "copyIds", "[I", true)
  | 29 => ("MergeGridModel", "copyContents", "[I", true)
  | 30 => ("MergeGridModel", "copyStyles", "[I", true)
  | 31 => ("MergeGridModel", "moved", "[I", true)
  | 32 => ("MergeGridModel", "from", "I", false)
  | 33 => ("MergeGridModel", "to", "I", false)
  | 34 => ("MergeGridModel", "first", "I", false)
  | 35 => ("MergeGridModel", "last", "I", false)
  | _ => ("MergeGridModel", "was", "[I", true)
def tyX6 : Nat → FieldType := fun k => match k with
  | 0 => .int
  | 1 => .int
  | 2 => .int
  | 3 => .int
  | 4 => .int
  | 5 => .array .int
  | 6 => .array .int
  | 7 => .array .int
  | 8 => .array .int
  | 9 => .array .int
  | 10 => .boolean
  | 11 => .int
  | 12 => .int
  | 13 => .int
  | 14 => .array .int
  | 15 => .array .int
  | 16 => .array .int
  | 17 => .array .int
  | 18 => .array .int
  | 19 => .array .int
  | 20 => .array .int
  | 21 => .int
  | 22 => .int
  | 23 => .int
  | 24 => .int
  | 25 => .int
  | 26 => .int
  | 27 => .int
  | 28 => .array .int
  | 29 => .array .int
  | 30 => .array .int
  | 31 => .array .int
  | 32 => .int
  | 33 => .int
  | 34 => .int
  | 35 => .int
  | _ => .array .int
abbrev wsX60 : List Cond := u_ws RX6 TX6 37
theorem nmX6 : ∀ a, a < 37 → ∀ b, b < 37 → a ≠ b → (TX6 a).2.1 ≠ (TX6 b).2.1 := by decide +kernel
theorem tyX6_ok : ∀ k, k < 37 → parseFieldDescriptor (TX6 k).2.2.1 = some (tyX6 k) := by decide +kernel
/-- the own classes, by number: 1 Area, 2 Block, 3 Cell, 4 CellList, 5 Table, 6 MergeGrid, 7 the reference; 8 Arrays, 9 the law -/
def mg_R : Nat → String := fun k => match k with
  | 1 => RX0
  | 2 => RX1
  | 3 => RX2
  | 4 => RX3
  | 5 => RX4
  | 6 => RX5
  | 7 => RX6
  | 8 => "java/util/Arrays"
  | _ => "MergeGridLaw"
def mg_F : Nat → u_T := fun k => match k with
  | 1 => TX0
  | 2 => TX1
  | 3 => TX2
  | 4 => TX3
  | 5 => TX4
  | 6 => TX5
  | _ => TX6
def mg_ty : Nat → Nat → FieldType := fun k => match k with
  | 1 => tyX0
  | 2 => tyX1
  | 3 => tyX2
  | 4 => tyX3
  | 5 => tyX4
  | 6 => tyX5
  | _ => tyX6
def mg_N : Nat → Nat := fun k => match k with
  | 1 => 4
  | 2 => 3
  | 3 => 6
  | 4 => 3
  | 5 => 9
  | 6 => 6
  | _ => 37
abbrev mg_cl : List vw_C := [(RX0, TX0, 4), (RX1, TX1, 3), (RX2, TX2, 6), (RX3, TX3, 3), (RX4, TX4, 9), (RX5, TX5, 6), (RX6, TX6, 37)]
/-- the tables' words that stay -/
def mg_T : List Cond := lw_tbl.filter goodWord
/-- a method: its name, code, locals, what it answers, handlers, (depth, cells, arguments with the receiver, the receiver's class or 0) -/
abbrev mg_Q : Type := MethodName × ByteArray × Nat × Option FieldType × List (Nat × Nat × Nat × Nat) × (Nat × Nat × Nat × Nat)
def mg_mt0 : List mg_Q := [(⟨"MergeGrid$Cell", "<init>", "()V"⟩, prog_4_method_1_code, 1, none, [], (2, 0, 1, 103)),
  (⟨"MergeGrid$Cell", "lie", "(IIII)V"⟩, prog_4_method_2_code, 5, none, [], (0, 0, 5, 3)),
  (⟨"MergeGrid$Cell", "fill", "(II)V"⟩, prog_4_method_3_code, 3, none, [], (0, 0, 3, 3)),
  (⟨"MergeGrid$Cell", "become", "(LMergeGrid$Cell;)V"⟩, prog_4_method_4_code, 2, none, [], (1, 0, 2, 3)),
  (⟨"MergeGrid$Cell", "bottom", "()I"⟩, prog_4_method_5_code, 1, (some .int), [], (0, 0, 1, 3)),
  (⟨"MergeGrid$Cell", "right", "()I"⟩, prog_4_method_6_code, 1, (some .int), [], (0, 0, 1, 3)),
  (⟨"MergeGrid$Cell", "isWithin", "(LMergeGrid$Area;)Z"⟩, prog_4_method_7_code, 2, (some .boolean), [], (1, 0, 2, 3)),
  (⟨"MergeGrid$Cell", "meets", "(LMergeGrid$Area;)Z"⟩, prog_4_method_8_code, 2, (some .boolean), [], (1, 0, 2, 3)),
  (⟨"MergeGrid$Cell", "isAcross", "(I)Z"⟩, prog_4_method_9_code, 2, (some .boolean), [], (1, 0, 2, 3)),
  (⟨"MergeGrid$Cell", "makeRoomForRow", "(I)V"⟩, prog_4_method_10_code, 2, none, [], (1, 0, 2, 3)),
  (⟨"MergeGrid$Cell", "makeRoomForColumn", "(I)V"⟩, prog_4_method_11_code, 2, none, [], (1, 0, 2, 3)),
  (⟨"MergeGrid$Cell", "loseRow", "(I)V"⟩, prog_4_method_12_code, 2, none, [], (1, 0, 2, 3)),
  (⟨"MergeGrid$Cell", "loseColumn", "(I)V"⟩, prog_4_method_13_code, 2, none, [], (1, 0, 2, 3)),
  (⟨"MergeGrid$Area", "<init>", "()V"⟩, prog_2_method_1_code, 1, none, [], (2, 0, 1, 101)),
  (⟨"MergeGrid$Area", "span", "(IIII)V"⟩, prog_2_method_2_code, 5, none, [], (2, 0, 5, 1)),
  (⟨"MergeGrid$Area", "squares", "()I"⟩, prog_2_method_3_code, 1, (some .int), [], (0, 0, 1, 1)),
  (⟨"MergeGrid$Area", "takeIn", "(LMergeGrid$Cell;)V"⟩, prog_2_method_4_code, 2, none, [], (2, 0, 2, 1)),
  (⟨"MergeGrid$CellList", "<init>", "()V"⟩, prog_5_method_1_code, 2, none, [], (3, 125, 1, 104)),
  (⟨"MergeGrid$CellList", "get", "(I)LMergeGrid$Cell;"⟩, prog_5_method_2_code, 2, (some (.object "MergeGrid$Cell")), [], (0, 0, 2, 4)),
  (⟨"MergeGrid$CellList", "add", "(IIII)LMergeGrid$Cell;"⟩, prog_5_method_3_code, 6, (some (.object "MergeGrid$Cell")), [], (1, 0, 5, 4)),
  (⟨"MergeGrid$CellList", "remove", "(I)V"⟩, prog_5_method_4_code, 3, none, [], (0, 0, 2, 4)),
  (⟨"MergeGrid$CellList", "removeIn", "(LMergeGrid$Area;)V"⟩, prog_5_method_5_code, 3, none, [], (2, 0, 2, 4)),
  (⟨"MergeGrid$CellList", "removeVanished", "()V"⟩, prog_5_method_6_code, 2, none, [], (1, 0, 1, 4)),
  (⟨"MergeGrid$CellList", "become", "(LMergeGrid$CellList;)V"⟩, prog_5_method_7_code, 3, none, [], (2, 0, 2, 4)),
  (⟨"MergeGrid$CellList", "countIn", "(LMergeGrid$Area;)I"⟩, prog_5_method_8_code, 4, (some .int), [], (2, 0, 2, 4)),
  (⟨"MergeGrid$CellList", "filledIn", "(LMergeGrid$Area;)I"⟩, prog_5_method_9_code, 4, (some .int), [], (2, 0, 2, 4)),
  (⟨"MergeGrid$CellList", "sumIn", "(LMergeGrid$Area;)I"⟩, prog_5_method_10_code, 4, (some .int), [], (2, 0, 2, 4)),
  (⟨"MergeGrid$CellList", "emptyIn", "(LMergeGrid$Area;)V"⟩, prog_5_method_11_code, 3, none, [], (2, 0, 2, 4)),
  (⟨"MergeGrid$CellList", "paint", "(LMergeGrid$Area;I)I"⟩, prog_5_method_12_code, 6, (some .int), [], (2, 0, 3, 4)),
  (⟨"MergeGrid$CellList", "isCut", "(LMergeGrid$Area;)Z"⟩, prog_5_method_13_code, 3, (some .boolean), [], (2, 0, 2, 4))]
def mg_mt1 : List mg_Q := [(⟨"MergeGrid$CellList", "isAcross", "(I)Z"⟩, prog_5_method_14_code, 3, (some .boolean), [], (2, 0, 2, 4)),
  (⟨"MergeGrid$CellList", "hasTall", "(II)Z"⟩, prog_5_method_15_code, 5, (some .boolean), [], (1, 0, 3, 4)),
  (⟨"MergeGrid$CellList", "mergedSquares", "()I"⟩, prog_5_method_16_code, 4, (some .int), [], (1, 0, 1, 4)),
  (⟨"MergeGrid$Block", "<init>", "()V"⟩, prog_3_method_1_code, 1, none, [], (4, 126, 1, 102)),
  (⟨"MergeGrid$Block", "isNothing", "()Z"⟩, prog_3_method_2_code, 1, (some .boolean), [], (0, 0, 1, 2)),
  (⟨"MergeGrid$Block", "take", "(LMergeGrid$CellList;LMergeGrid$Area;)V"⟩, prog_3_method_3_code, 5, none, [], (2, 0, 3, 2)),
  (⟨"MergeGrid$Block", "isAcross", "(III)Z"⟩, prog_3_method_4_code, 5, (some .boolean), [], (3, 0, 4, 2)),
  (⟨"MergeGrid$Table", "<init>", "()V"⟩, prog_6_method_1_code, 1, none, [], (4, 135, 1, 105)),
  (⟨"MergeGrid$Table", "hasRow", "(I)Z"⟩, prog_6_method_2_code, 2, (some .boolean), [], (0, 0, 2, 5)),
  (⟨"MergeGrid$Table", "hasColumn", "(I)Z"⟩, prog_6_method_3_code, 2, (some .boolean), [], (0, 0, 2, 5)),
  (⟨"MergeGrid$Table", "isInHeader", "(I)Z"⟩, prog_6_method_4_code, 2, (some .boolean), [], (0, 0, 2, 5)),
  (⟨"MergeGrid$Table", "become", "(LMergeGrid$Table;)V"⟩, prog_6_method_5_code, 2, none, [], (3, 0, 2, 5)),
  (⟨"MergeGrid$Table", "ownerOf", "(II)I"⟩, prog_6_method_6_code, 3, (some .int), [], (1, 0, 3, 5)),
  (⟨"MergeGrid$Table", "setOwner", "(III)V"⟩, prog_6_method_7_code, 4, none, [], (1, 0, 4, 5)),
  (⟨"MergeGrid$Table", "cellOn", "(II)LMergeGrid$Cell;"⟩, prog_6_method_8_code, 3, (some (.object "MergeGrid$Cell")), [], (2, 0, 3, 5)),
  (⟨"MergeGrid$Table", "settle", "()V"⟩, prog_6_method_9_code, 3, none, [], (3, 0, 1, 5)),
  (⟨"MergeGrid$Table", "own", "(I)V"⟩, prog_6_method_10_code, 5, none, [], (2, 0, 2, 5)),
  (⟨"MergeGrid$Table", "addRow", "(I)V"⟩, prog_6_method_11_code, 3, none, [], (4, 0, 2, 5)),
  (⟨"MergeGrid$Table", "addColumn", "(I)V"⟩, prog_6_method_12_code, 3, none, [], (4, 0, 2, 5)),
  (⟨"MergeGrid$Table", "dropRow", "(I)V"⟩, prog_6_method_13_code, 3, none, [], (4, 0, 2, 5)),
  (⟨"MergeGrid$Table", "dropColumn", "(I)V"⟩, prog_6_method_14_code, 3, none, [], (4, 0, 2, 5)),
  (⟨"MergeGrid$Table", "insertSize", "([III)V"⟩, prog_6_method_15_code, 4, none, [], (0, 0, 3, 0)),
  (⟨"MergeGrid$Table", "removeSize", "([II)V"⟩, prog_6_method_16_code, 3, none, [], (2, 0, 2, 0)),
  (⟨"MergeGrid$Table", "planMove", "(II)V"⟩, prog_6_method_17_code, 4, none, [], (0, 0, 3, 5)),
  (⟨"MergeGrid$Table", "planSort", "(IZ)V"⟩, prog_6_method_18_code, 5, none, [], (4, 0, 3, 5)),
  (⟨"MergeGrid$Table", "rowsSortedBefore", "(IIZ)I"⟩, prog_6_method_19_code, 9, (some .int), [], (3, 0, 4, 5)),
  (⟨"MergeGrid$Table", "placeOf", "(I)I"⟩, prog_6_method_20_code, 2, (some .int), [], (1, 0, 2, 5)),
  (⟨"MergeGrid$Table", "movedRows", "()I"⟩, prog_6_method_21_code, 3, (some .int), [], (2, 0, 1, 5)),
  (⟨"MergeGrid$Table", "renumberRows", "()V"⟩, prog_6_method_22_code, 3, none, [], (4, 0, 1, 5)),
  (⟨"MergeGrid$Table", "growByCells", "(LMergeGrid$Area;)V"⟩, prog_6_method_23_code, 4, none, [], (4, 0, 2, 5))]
def mg_mt2 : List mg_Q := [(⟨"MergeGrid$Table", "takeInCells", "(LMergeGrid$Area;)V"⟩, prog_6_method_24_code, 3, none, [], (3, 0, 2, 5)),
  (⟨"MergeGrid$Table", "growByBorders", "(LMergeGrid$Area;)V"⟩, prog_6_method_25_code, 4, none, [], (4, 0, 2, 5)),
  (⟨"MergeGrid$Table", "takeInBorders", "(LMergeGrid$Area;)V"⟩, prog_6_method_26_code, 7, none, [], (3, 0, 2, 5)),
  (⟨"MergeGrid$Table", "join", "(LMergeGrid$Area;)V"⟩, prog_6_method_27_code, 6, none, [], (4, 0, 2, 5)),
  (⟨"MergeGrid$Table", "part", "(LMergeGrid$Cell;II)V"⟩, prog_6_method_28_code, 9, none, [], (4, 0, 4, 5)),
  (⟨"MergeGrid$Table", "put", "(LMergeGrid$Block;LMergeGrid$Area;II)V"⟩, prog_6_method_29_code, 7, none, [], (4, 0, 5, 5)),
  (⟨"MergeGrid$Table", "putOne", "(LMergeGrid$CellList;II)V"⟩, prog_6_method_30_code, 6, none, [], (2, 0, 4, 5)),
  (⟨"MergeGrid$Table", "isCoveredOnce", "()Z"⟩, prog_6_method_31_code, 3, (some .boolean), [], (3, 0, 1, 5)),
  (⟨"MergeGrid$Table", "ownsItsSquares", "(I)Z"⟩, prog_6_method_32_code, 5, (some .boolean), [], (2, 0, 2, 5)),
  (⟨"java/util/Arrays", "fill", "([II)V"⟩, prog_22_method_103_code, 4, none, [], (0, 0, 2, 0)),
  (⟨"MergeGrid", "<init>", "()V"⟩, prog_1_method_1_code, 1, none, [], (5, 420, 1, 106)),
  (⟨"MergeGrid", "rows", "()I"⟩, prog_1_method_2_code, 1, (some .int), [], (0, 0, 1, 6)),
  (⟨"MergeGrid", "columns", "()I"⟩, prog_1_method_3_code, 1, (some .int), [], (0, 0, 1, 6)),
  (⟨"MergeGrid", "cellCount", "()I"⟩, prog_1_method_4_code, 1, (some .int), [], (0, 0, 1, 6)),
  (⟨"MergeGrid", "cellsBySquares", "()I"⟩, prog_1_method_5_code, 5, (some .int), [], (3, 0, 1, 6)),
  (⟨"MergeGrid", "insertRow", "(I)I"⟩, prog_1_method_6_code, 2, (some .int), [], (6, 1, 2, 6)),
  (⟨"MergeGrid", "insertColumn", "(I)I"⟩, prog_1_method_7_code, 2, (some .int), [], (6, 1, 2, 6)),
  (⟨"MergeGrid", "deleteRow", "(I)I"⟩, prog_1_method_8_code, 2, (some .int), [], (7, 2, 2, 6)),
  (⟨"MergeGrid", "deleteColumn", "(I)I"⟩, prog_1_method_9_code, 2, (some .int), [], (7, 2, 2, 6)),
  (⟨"MergeGrid", "moveRow", "(II)I"⟩, prog_1_method_10_code, 3, (some .int), [], (7, 3, 3, 6)),
  (⟨"MergeGrid", "topOf", "(II)I"⟩, prog_1_method_11_code, 3, (some .int), [], (8, 2, 3, 6)),
  (⟨"MergeGrid", "leftOf", "(II)I"⟩, prog_1_method_12_code, 3, (some .int), [], (8, 2, 3, 6)),
  (⟨"MergeGrid", "rowsOf", "(II)I"⟩, prog_1_method_13_code, 3, (some .int), [], (8, 2, 3, 6)),
  (⟨"MergeGrid", "columnsOf", "(II)I"⟩, prog_1_method_14_code, 3, (some .int), [], (8, 2, 3, 6)),
  (⟨"MergeGrid", "contentAt", "(II)I"⟩, prog_1_method_15_code, 3, (some .int), [], (8, 2, 3, 6)),
  (⟨"MergeGrid", "styleAt", "(II)I"⟩, prog_1_method_16_code, 3, (some .int), [], (8, 2, 3, 6)),
  (⟨"MergeGrid", "setContent", "(III)I"⟩, prog_1_method_17_code, 6, (some .int), [], (8, 3, 4, 6)),
  (⟨"MergeGrid", "setStyle", "(I)I"⟩, prog_1_method_18_code, 2, (some .int), [], (6, 1, 2, 6)),
  (⟨"MergeGrid", "select", "(IIII)I"⟩, prog_1_method_19_code, 5, (some .int), [], (8, 4, 5, 6)),
  (⟨"MergeGrid", "selected", "(C)I"⟩, prog_1_method_20_code, 2, (some .int), [], (6, 1, 2, 6))]
def mg_mt3 : List mg_Q := [(⟨"MergeGrid", "selectedCells", "()I"⟩, prog_1_method_21_code, 1, (some .int), [], (3, 0, 1, 6)),
  (⟨"MergeGrid", "squaresFor", "(IIII)I"⟩, prog_1_method_22_code, 5, (some .int), [], (8, 4, 5, 6)),
  (⟨"MergeGrid", "merge", "()I"⟩, prog_1_method_23_code, 2, (some .int), [], (6, 1, 1, 6)),
  (⟨"MergeGrid", "split", "(IIC)I"⟩, prog_1_method_24_code, 7, (some .int), [], (8, 3, 4, 6)),
  (⟨"MergeGrid", "clear", "()I"⟩, prog_1_method_25_code, 2, (some .int), [], (6, 1, 1, 6)),
  (⟨"MergeGrid", "copy", "()I"⟩, prog_1_method_26_code, 1, (some .int), [], (3, 0, 1, 6)),
  (⟨"MergeGrid", "paste", "(IIII)I"⟩, prog_1_method_27_code, 5, (some .int), [], (8, 3, 5, 6)),
  (⟨"MergeGrid", "setHeader", "(I)I"⟩, prog_1_method_28_code, 2, (some .int), [], (6, 1, 2, 6)),
  (⟨"MergeGrid", "header", "()I"⟩, prog_1_method_29_code, 1, (some .int), [], (0, 0, 1, 6)),
  (⟨"MergeGrid", "sort", "(IZ)I"⟩, prog_1_method_30_code, 3, (some .int), [], (7, 2, 3, 6)),
  (⟨"MergeGrid", "widthOf", "(I)I"⟩, prog_1_method_31_code, 2, (some .int), [], (7, 1, 2, 6)),
  (⟨"MergeGrid", "heightOf", "(I)I"⟩, prog_1_method_32_code, 2, (some .int), [], (7, 1, 2, 6)),
  (⟨"MergeGrid", "setWidth", "(II)I"⟩, prog_1_method_33_code, 3, (some .int), [], (7, 2, 3, 6)),
  (⟨"MergeGrid", "setHeight", "(II)I"⟩, prog_1_method_34_code, 3, (some .int), [], (7, 2, 3, 6)),
  (⟨"MergeGrid", "drag", "(II)I"⟩, prog_1_method_35_code, 8, (some .int), [], (7, 2, 3, 6)),
  (⟨"MergeGrid", "even", "(II)I"⟩, prog_1_method_36_code, 6, (some .int), [], (7, 3, 3, 6)),
  (⟨"MergeGrid", "sizeOf", "(II)I"⟩, prog_1_method_37_code, 4, (some .int), [], (8, 2, 3, 6)),
  (⟨"MergeGrid", "cellAt", "(II)I"⟩, prog_1_method_38_code, 6, (some .int), [], (6, 1, 3, 6)),
  (⟨"MergeGrid", "takeBack", "()Z"⟩, prog_1_method_39_code, 2, (some .boolean), [], (6, 1, 1, 6)),
  (⟨"MergeGrid", "sum", "()J"⟩, prog_1_method_40_code, 1, (some .long), [], (3, 0, 1, 6)),
  (⟨"MergeGrid", "mean", "()D"⟩, prog_1_method_41_code, 2, (some .double), [], (6, 1, 1, 6)),
  (⟨"MergeGrid", "mergedShare", "()F"⟩, prog_1_method_42_code, 2, (some .float), [], (2, 0, 1, 6)),
  (⟨"MergeGrid", "isTiled", "()Z"⟩, prog_1_method_43_code, 1, (some .boolean), [], (4, 0, 1, 6)),
  (⟨"MergeGrid", "checkRow", "(I)V"⟩, prog_1_method_44_code, 2, none, [], (6, 1, 2, 6)),
  (⟨"MergeGrid", "checkColumn", "(I)V"⟩, prog_1_method_45_code, 2, none, [], (6, 1, 2, 6)),
  (⟨"MergeGrid", "checkSquare", "(II)V"⟩, prog_1_method_46_code, 3, none, [], (7, 2, 3, 6)),
  (⟨"MergeGrid", "isTimes", "(I)Z"⟩, prog_1_method_47_code, 1, (some .boolean), [], (0, 0, 1, 0)),
  (⟨"MergeGrid", "isWidth", "(J)Z"⟩, prog_1_method_48_code, 2, (some .boolean), [], (0, 0, 1, 0)),
  (⟨"MergeGrid", "remember", "()V"⟩, prog_1_method_49_code, 1, none, [], (4, 0, 1, 6)),
  (⟨"MergeGrid", "selectFirst", "()V"⟩, prog_1_method_50_code, 1, none, [], (5, 0, 1, 6))]
def mg_mt4 : List mg_Q := [(⟨"MergeGrid", "sumOf", "([III)I"⟩, prog_1_method_51_code, 5, (some .int), [], (2, 0, 3, 0)),
  (⟨"MergeGrid", "lineAt", "([III)I"⟩, prog_1_method_52_code, 5, (some .int), [], (0, 0, 3, 0)),
  (⟨"MergeGridModel", "<init>", "()V"⟩, prog_8_method_1_code, 2, none, [], (2, 20, 1, 107)),
  (⟨"MergeGridModel", "thrown", "()I"⟩, prog_8_method_2_code, 1, (some .int), [], (0, 0, 1, 7)),
  (⟨"MergeGridModel", "fails", "(I)Z"⟩, prog_8_method_3_code, 2, (some .boolean), [], (0, 0, 2, 7)),
  (⟨"MergeGridModel", "in", "(III)Z"⟩, prog_8_method_4_code, 3, (some .boolean), [], (0, 0, 3, 0)),
  (⟨"MergeGridModel", "isSquare", "(II)Z"⟩, prog_8_method_5_code, 3, (some .boolean), [], (1, 0, 3, 7)),
  (⟨"MergeGridModel", "id", "(II)I"⟩, prog_8_method_6_code, 3, (some .int), [], (0, 0, 3, 7)),
  (⟨"MergeGridModel", "settles", "()V"⟩, prog_8_method_7_code, 4, none, [], (1, 0, 1, 7)),
  (⟨"MergeGridModel", "renames", "([I)V"⟩, prog_8_method_8_code, 3, none, [], (0, 0, 2, 7)),
  (⟨"MergeGridModel", "keeps", "()V"⟩, prog_8_method_9_code, 2, none, [], (0, 0, 1, 7)),
  (⟨"MergeGridModel", "isIn", "(II)Z"⟩, prog_8_method_10_code, 3, (some .boolean), [], (1, 0, 3, 7)),
  (⟨"MergeGridModel", "isCut", "(I)Z"⟩, prog_8_method_11_code, 6, (some .boolean), [], (2, 0, 2, 7)),
  (⟨"MergeGridModel", "takesIn", "(I)V"⟩, prog_8_method_12_code, 4, none, [], (1, 0, 2, 7)),
  (⟨"MergeGridModel", "grows", "()V"⟩, prog_8_method_13_code, 3, none, [], (3, 0, 1, 7)),
  (⟨"MergeGridModel", "spans", "(IIII)V"⟩, prog_8_method_14_code, 5, none, [], (4, 0, 5, 7)),
  (⟨"MergeGridModel", "selects", "()V"⟩, prog_8_method_15_code, 1, none, [], (0, 0, 1, 7)),
  (⟨"MergeGridModel", "startsAnew", "()V"⟩, prog_8_method_16_code, 1, none, [], (5, 0, 1, 7)),
  (⟨"MergeGridModel", "isChosen", "(I)Z"⟩, prog_8_method_18_code, 5, (some .boolean), [], (1, 0, 2, 7)),
  (⟨"MergeGridModel", "rows", "()I"⟩, prog_8_method_19_code, 1, (some .int), [], (0, 0, 1, 7)),
  (⟨"MergeGridModel", "columns", "()I"⟩, prog_8_method_20_code, 1, (some .int), [], (0, 0, 1, 7)),
  (⟨"MergeGridModel", "cellCount", "()I"⟩, prog_8_method_21_code, 1, (some .int), [], (0, 0, 1, 7)),
  (⟨"MergeGridModel", "cellsBySquares", "()I"⟩, prog_8_method_22_code, 1, (some .int), [], (0, 0, 1, 7)),
  (⟨"MergeGridModel", "putsAside", "()V"⟩, prog_8_method_23_code, 2, none, [], (0, 0, 1, 7)),
  (⟨"MergeGridModel", "freshens", "()V"⟩, prog_8_method_24_code, 2, none, [], (0, 0, 1, 7)),
  (⟨"MergeGridModel", "insertRow", "(I)I"⟩, prog_8_method_25_code, 4, (some .int), [], (6, 0, 2, 7)),
  (⟨"MergeGridModel", "insertColumn", "(I)I"⟩, prog_8_method_26_code, 4, (some .int), [], (6, 0, 2, 7)),
  (⟨"MergeGridModel", "deleteRow", "(I)I"⟩, prog_8_method_27_code, 4, (some .int), [], (6, 0, 2, 7)),
  (⟨"MergeGridModel", "deleteColumn", "(I)I"⟩, prog_8_method_28_code, 4, (some .int), [], (6, 0, 2, 7)),
  (⟨"MergeGridModel", "isTied", "(II)Z"⟩, prog_8_method_29_code, 6, (some .boolean), [], (1, 0, 3, 7))]
def mg_mt5 : List mg_Q := [(⟨"MergeGridModel", "exchanges", "(I)V"⟩, prog_8_method_30_code, 5, none, [], (1, 0, 2, 7)),
  (⟨"MergeGridModel", "moveRow", "(II)I"⟩, prog_8_method_31_code, 6, (some .int), [], (6, 0, 3, 7)),
  (⟨"MergeGridModel", "failsSquare", "(II)Z"⟩, prog_8_method_32_code, 3, (some .boolean), [], (2, 0, 3, 7)),
  (⟨"MergeGridModel", "topRow", "(I)I"⟩, prog_8_method_33_code, 5, (some .int), [], (1, 0, 2, 7)),
  (⟨"MergeGridModel", "leftCol", "(I)I"⟩, prog_8_method_34_code, 5, (some .int), [], (1, 0, 2, 7)),
  (⟨"MergeGridModel", "rowMany", "(I)I"⟩, prog_8_method_35_code, 5, (some .int), [], (2, 0, 2, 7)),
  (⟨"MergeGridModel", "colMany", "(I)I"⟩, prog_8_method_36_code, 5, (some .int), [], (2, 0, 2, 7)),
  (⟨"MergeGridModel", "topOf", "(II)I"⟩, prog_8_method_37_code, 3, (some .int), [], (3, 0, 3, 7)),
  (⟨"MergeGridModel", "leftOf", "(II)I"⟩, prog_8_method_38_code, 3, (some .int), [], (3, 0, 3, 7)),
  (⟨"MergeGridModel", "rowsOf", "(II)I"⟩, prog_8_method_39_code, 3, (some .int), [], (3, 0, 3, 7)),
  (⟨"MergeGridModel", "columnsOf", "(II)I"⟩, prog_8_method_40_code, 3, (some .int), [], (3, 0, 3, 7)),
  (⟨"MergeGridModel", "contentAt", "(II)I"⟩, prog_8_method_41_code, 3, (some .int), [], (3, 0, 3, 7)),
  (⟨"MergeGridModel", "styleAt", "(II)I"⟩, prog_8_method_42_code, 3, (some .int), [], (3, 0, 3, 7)),
  (⟨"MergeGridModel", "setContent", "(III)I"⟩, prog_8_method_43_code, 5, (some .int), [], (2, 0, 4, 7)),
  (⟨"MergeGridModel", "setStyle", "(I)I"⟩, prog_8_method_44_code, 4, (some .int), [], (2, 0, 2, 7)),
  (⟨"MergeGridModel", "failsTwo", "(IIII)Z"⟩, prog_8_method_45_code, 5, (some .boolean), [], (2, 0, 5, 7)),
  (⟨"MergeGridModel", "select", "(IIII)I"⟩, prog_8_method_46_code, 5, (some .int), [], (5, 0, 5, 7)),
  (⟨"MergeGridModel", "selected", "(C)I"⟩, prog_8_method_47_code, 3, (some .int), [], (1, 0, 2, 7)),
  (⟨"MergeGridModel", "chosen", "()I"⟩, prog_8_method_48_code, 3, (some .int), [], (2, 0, 1, 7)),
  (⟨"MergeGridModel", "selectedCells", "()I"⟩, prog_8_method_49_code, 1, (some .int), [], (3, 0, 1, 7)),
  (⟨"MergeGridModel", "squaresFor", "(IIII)I"⟩, prog_8_method_50_code, 5, (some .int), [], (5, 0, 5, 7)),
  (⟨"MergeGridModel", "filled", "()I"⟩, prog_8_method_51_code, 3, (some .int), [], (2, 0, 1, 7)),
  (⟨"MergeGridModel", "chosenSum", "()I"⟩, prog_8_method_52_code, 3, (some .int), [], (2, 0, 1, 7)),
  (⟨"MergeGridModel", "merge", "()I"⟩, prog_8_method_53_code, 6, (some .int), [], (3, 0, 1, 7)),
  (⟨"MergeGridModel", "split", "(IIC)I"⟩, prog_8_method_54_code, 8, (some .int), [], (6, 0, 4, 7)),
  (⟨"MergeGridModel", "parts", "(IC)V"⟩, prog_8_method_55_code, 6, none, [], (2, 0, 3, 7)),
  (⟨"MergeGridModel", "beginOf", "(ICIIII)I"⟩, prog_8_method_56_code, 9, (some .int), [], (0, 0, 7, 7)),
  (⟨"MergeGridModel", "placed", "(ICII)V"⟩, prog_8_method_57_code, 7, none, [], (1, 0, 5, 7)),
  (⟨"MergeGridModel", "spreads", "(I)V"⟩, prog_8_method_58_code, 5, none, [], (0, 0, 2, 7)),
  (⟨"MergeGridModel", "clear", "()I"⟩, prog_8_method_59_code, 3, (some .int), [], (3, 0, 1, 7))]
def mg_mt6 : List mg_Q := [(⟨"MergeGridModel", "copy", "()I"⟩, prog_8_method_60_code, 3, (some .int), [], (3, 0, 1, 7)),
  (⟨"MergeGridModel", "isParted", "(II)Z"⟩, prog_8_method_61_code, 6, (some .boolean), [], (0, 0, 3, 7)),
  (⟨"MergeGridModel", "isAnyCut", "()Z"⟩, prog_8_method_62_code, 3, (some .boolean), [], (3, 0, 1, 7)),
  (⟨"MergeGridModel", "paste", "(IIII)I"⟩, prog_8_method_63_code, 6, (some .int), [], (6, 0, 5, 7)),
  (⟨"MergeGridModel", "lays", "()V"⟩, prog_8_method_64_code, 5, none, [], (2, 0, 1, 7)),
  (⟨"MergeGridModel", "oldBegin", "(II)I"⟩, prog_8_method_65_code, 4, (some .int), [], (0, 0, 3, 7)),
  (⟨"MergeGridModel", "pastedBegin", "(II)I"⟩, prog_8_method_66_code, 6, (some .int), [], (0, 0, 3, 7)),
  (⟨"MergeGridModel", "isTiedAt", "(I)Z"⟩, prog_8_method_67_code, 4, (some .boolean), [], (1, 0, 2, 7)),
  (⟨"MergeGridModel", "setHeader", "(I)I"⟩, prog_8_method_68_code, 3, (some .int), [], (2, 0, 2, 7)),
  (⟨"MergeGridModel", "header", "()I"⟩, prog_8_method_69_code, 1, (some .int), [], (0, 0, 1, 7)),
  (⟨"MergeGridModel", "sort", "(IZ)I"⟩, prog_8_method_70_code, 8, (some .int), [], (6, 0, 3, 7)),
  (⟨"MergeGridModel", "isCol", "(I)Z"⟩, prog_8_method_71_code, 2, (some .boolean), [], (1, 0, 2, 7)),
  (⟨"MergeGridModel", "widthOf", "(I)I"⟩, prog_8_method_72_code, 2, (some .int), [], (2, 0, 2, 7)),
  (⟨"MergeGridModel", "heightOf", "(I)I"⟩, prog_8_method_73_code, 2, (some .int), [], (1, 0, 2, 7)),
  (⟨"MergeGridModel", "setWidth", "(II)I"⟩, prog_8_method_74_code, 4, (some .int), [], (2, 0, 3, 7)),
  (⟨"MergeGridModel", "setHeight", "(II)I"⟩, prog_8_method_75_code, 4, (some .int), [], (1, 0, 3, 7)),
  (⟨"MergeGridModel", "drag", "(II)I"⟩, prog_8_method_76_code, 4, (some .int), [], (1, 0, 3, 7)),
  (⟨"MergeGridModel", "even", "(II)I"⟩, prog_8_method_77_code, 6, (some .int), [], (2, 0, 3, 7)),
  (⟨"MergeGridModel", "sizeOf", "(II)I"⟩, prog_8_method_78_code, 7, (some .int), [], (3, 0, 3, 7)),
  (⟨"MergeGridModel", "cellAt", "(II)I"⟩, prog_8_method_79_code, 7, (some .int), [], (2, 0, 3, 7)),
  (⟨"MergeGridModel", "changes", "([I[II)V"⟩, prog_8_method_80_code, 5, none, [], (0, 0, 3, 0)),
  (⟨"MergeGridModel", "takeBack", "()Z"⟩, prog_8_method_81_code, 3, (some .boolean), [], (6, 0, 1, 7)),
  (⟨"MergeGridModel", "sum", "()J"⟩, prog_8_method_82_code, 1, (some .long), [], (3, 0, 1, 7)),
  (⟨"MergeGridModel", "mean", "()D"⟩, prog_8_method_83_code, 1, (some .double), [], (3, 0, 1, 7)),
  (⟨"MergeGridModel", "mergedShare", "()F"⟩, prog_8_method_84_code, 4, (some .float), [], (3, 0, 1, 7)),
  (⟨"MergeGridModel", "isTiled", "()Z"⟩, prog_8_method_85_code, 1, (some .boolean), [], (2, 0, 1, 7)),
  (⟨"MergeGridLaw", "insertRow", "(LMergeGrid;I[J)I"⟩, method_3_code, 4, (some .int), [(0, 9, 12, 13), (0, 9, 15, 15)], (7, 1, 3, 0)),
  (⟨"MergeGridLaw", "insertColumn", "(LMergeGrid;I[J)I"⟩, method_4_code, 4, (some .int), [(0, 9, 12, 13), (0, 9, 15, 15)], (7, 1, 3, 0)),
  (⟨"MergeGridLaw", "deleteRow", "(LMergeGrid;I[J)I"⟩, method_5_code, 4, (some .int), [(0, 9, 12, 13), (0, 9, 15, 15)], (8, 2, 3, 0)),
  (⟨"MergeGridLaw", "deleteColumn", "(LMergeGrid;I[J)I"⟩, method_6_code, 4, (some .int), [(0, 9, 12, 13), (0, 9, 15, 15)], (8, 2, 3, 0))]
def mg_mt7 : List mg_Q := [(⟨"MergeGridLaw", "moveRow", "(LMergeGrid;II[J)I"⟩, method_7_code, 5, (some .int), [(0, 10, 13, 13), (0, 10, 17, 30), (0, 10, 21, 32)], (8, 3, 4, 0)),
  (⟨"MergeGridLaw", "topOf", "(LMergeGrid;II[J)I"⟩, method_8_code, 5, (some .int), [(0, 10, 13, 13)], (9, 2, 4, 0)),
  (⟨"MergeGridLaw", "leftOf", "(LMergeGrid;II[J)I"⟩, method_9_code, 5, (some .int), [(0, 10, 13, 13)], (9, 2, 4, 0)),
  (⟨"MergeGridLaw", "rowsOf", "(LMergeGrid;II[J)I"⟩, method_10_code, 5, (some .int), [(0, 10, 13, 13)], (9, 2, 4, 0)),
  (⟨"MergeGridLaw", "columnsOf", "(LMergeGrid;II[J)I"⟩, method_11_code, 5, (some .int), [(0, 10, 13, 13)], (9, 2, 4, 0)),
  (⟨"MergeGridLaw", "contentAt", "(LMergeGrid;II[J)I"⟩, method_12_code, 5, (some .int), [(0, 10, 13, 13)], (9, 2, 4, 0)),
  (⟨"MergeGridLaw", "styleAt", "(LMergeGrid;II[J)I"⟩, method_13_code, 5, (some .int), [(0, 10, 13, 13)], (9, 2, 4, 0)),
  (⟨"MergeGridLaw", "setContent", "(LMergeGrid;III[J)I"⟩, method_14_code, 6, (some .int), [(0, 12, 15, 13), (0, 12, 19, 30)], (9, 3, 5, 0)),
  (⟨"MergeGridLaw", "setStyle", "(LMergeGrid;I[J)I"⟩, method_15_code, 4, (some .int), [(0, 9, 12, 30)], (7, 1, 3, 0)),
  (⟨"MergeGridLaw", "select", "(LMergeGrid;IIII[J)I"⟩, method_16_code, 7, (some .int), [(0, 14, 17, 13)], (9, 4, 6, 0)),
  (⟨"MergeGridLaw", "selected", "(LMergeGrid;C[J)I"⟩, method_17_code, 4, (some .int), [(0, 9, 12, 30)], (7, 1, 3, 0)),
  (⟨"MergeGridLaw", "squaresFor", "(LMergeGrid;IIII[J)I"⟩, method_18_code, 7, (some .int), [(0, 14, 17, 13)], (9, 4, 6, 0)),
  (⟨"MergeGridLaw", "merge", "(LMergeGrid;[J)I"⟩, method_19_code, 3, (some .int), [(0, 8, 11, 15), (0, 8, 14, 32)], (7, 1, 2, 0)),
  (⟨"MergeGridLaw", "split", "(LMergeGrid;IIC[J)I"⟩, method_20_code, 6, (some .int), [(0, 12, 15, 13), (0, 12, 19, 30), (0, 12, 23, 15)], (9, 3, 5, 0)),
  (⟨"MergeGridLaw", "clear", "(LMergeGrid;[J)I"⟩, method_21_code, 3, (some .int), [(0, 8, 11, 15)], (7, 1, 2, 0)),
  (⟨"MergeGridLaw", "paste", "(LMergeGrid;IIII[J)I"⟩, method_22_code, 7, (some .int), [(0, 14, 17, 13), (0, 14, 21, 30), (0, 14, 25, 15), (0, 14, 29, 32)], (9, 3, 6, 0)),
  (⟨"MergeGridLaw", "setHeader", "(LMergeGrid;I[J)I"⟩, method_23_code, 4, (some .int), [(0, 9, 12, 30), (0, 9, 15, 32)], (7, 1, 3, 0)),
  (⟨"MergeGridLaw", "sort", "(LMergeGrid;IZ[J)I"⟩, method_24_code, 5, (some .int), [(0, 10, 13, 13), (0, 10, 17, 32)], (8, 2, 4, 0)),
  (⟨"MergeGridLaw", "widthOf", "(LMergeGrid;I[J)I"⟩, method_25_code, 4, (some .int), [(0, 9, 12, 13)], (8, 1, 3, 0)),
  (⟨"MergeGridLaw", "heightOf", "(LMergeGrid;I[J)I"⟩, method_26_code, 4, (some .int), [(0, 9, 12, 13)], (8, 1, 3, 0)),
  (⟨"MergeGridLaw", "setWidth", "(LMergeGrid;II[J)I"⟩, method_27_code, 5, (some .int), [(0, 10, 13, 13), (0, 10, 17, 30)], (8, 2, 4, 0)),
  (⟨"MergeGridLaw", "setHeight", "(LMergeGrid;II[J)I"⟩, method_28_code, 5, (some .int), [(0, 10, 13, 13), (0, 10, 17, 30)], (8, 2, 4, 0)),
  (⟨"MergeGridLaw", "drag", "(LMergeGrid;II[J)I"⟩, method_29_code, 5, (some .int), [(0, 10, 13, 13), (0, 10, 17, 32)], (8, 2, 4, 0)),
  (⟨"MergeGridLaw", "even", "(LMergeGrid;II[J)I"⟩, method_30_code, 5, (some .int), [(0, 10, 13, 13), (0, 10, 17, 30)], (8, 3, 4, 0)),
  (⟨"MergeGridLaw", "sizeOf", "(LMergeGrid;II[J)I"⟩, method_31_code, 5, (some .int), [(0, 10, 13, 13)], (9, 2, 4, 0)),
  (⟨"MergeGridLaw", "cellAt", "(LMergeGrid;II[J)I"⟩, method_32_code, 5, (some .int), [(0, 10, 13, 115)], (7, 1, 4, 0)),
  (⟨"MergeGridLaw", "takeBack", "(LMergeGrid;[J)I"⟩, method_33_code, 3, (some .int), [(0, 15, 18, 15)], (7, 1, 2, 0)),
  (⟨"MergeGridLaw", "mean", "(LMergeGrid;[D)I"⟩, method_34_code, 3, (some .int), [(0, 7, 10, 125)], (7, 1, 2, 0))]
theorem mg_lay1 : (u_ws (mg_R 1) (mg_F 1) (mg_N 1)).map some = [272, 274, 276, 278].map (fun i => lw_tbl[i]?) ∧ (u_ws (mg_R 1) (mg_F 1) (mg_N 1)).all goodWord = true := by decide +kernel
theorem mg_nm1 : (∀ a, a < mg_N 1 → ∀ b, b < mg_N 1 → a ≠ b → (mg_F 1 a).2.1 ≠ (mg_F 1 b).2.1) ∧ (∀ k, k < mg_N 1 → parseFieldDescriptor (mg_F 1 k).2.2.1 = some (mg_ty 1 k)) ∧ (∀ k, k < mg_N 1 → (mg_F 1 k).1 = mg_R 1) := by decide +kernel
theorem mg_lay2 : (u_ws (mg_R 2) (mg_F 2) (mg_N 2)).map some = [298, 300, 302].map (fun i => lw_tbl[i]?) ∧ (u_ws (mg_R 2) (mg_F 2) (mg_N 2)).all goodWord = true := by decide +kernel
theorem mg_nm2 : (∀ a, a < mg_N 2 → ∀ b, b < mg_N 2 → a ≠ b → (mg_F 2 a).2.1 ≠ (mg_F 2 b).2.1) ∧ (∀ k, k < mg_N 2 → parseFieldDescriptor (mg_F 2 k).2.2.1 = some (mg_ty 2 k)) ∧ (∀ k, k < mg_N 2 → (mg_F 2 k).1 = mg_R 2) := by decide +kernel
theorem mg_lay3 : (u_ws (mg_R 3) (mg_F 3) (mg_N 3)).map some = [134, 136, 138, 140, 142, 144].map (fun i => lw_tbl[i]?) ∧ (u_ws (mg_R 3) (mg_F 3) (mg_N 3)).all goodWord = true := by decide +kernel
theorem mg_nm3 : (∀ a, a < mg_N 3 → ∀ b, b < mg_N 3 → a ≠ b → (mg_F 3 a).2.1 ≠ (mg_F 3 b).2.1) ∧ (∀ k, k < mg_N 3 → parseFieldDescriptor (mg_F 3 k).2.2.1 = some (mg_ty 3 k)) ∧ (∀ k, k < mg_N 3 → (mg_F 3 k).1 = mg_R 3) := by decide +kernel
theorem mg_lay4 : (u_ws (mg_R 4) (mg_F 4) (mg_N 4)).map some = [154, 156, 158].map (fun i => lw_tbl[i]?) ∧ (u_ws (mg_R 4) (mg_F 4) (mg_N 4)).all goodWord = true := by decide +kernel
theorem mg_nm4 : (∀ a, a < mg_N 4 → ∀ b, b < mg_N 4 → a ≠ b → (mg_F 4 a).2.1 ≠ (mg_F 4 b).2.1) ∧ (∀ k, k < mg_N 4 → parseFieldDescriptor (mg_F 4 k).2.2.1 = some (mg_ty 4 k)) ∧ (∀ k, k < mg_N 4 → (mg_F 4 k).1 = mg_R 4) := by decide +kernel
theorem mg_lay5 : (u_ws (mg_R 5) (mg_F 5) (mg_N 5)).map some = [227, 229, 231, 233, 235, 237, 239, 241, 243].map (fun i => lw_tbl[i]?) ∧ (u_ws (mg_R 5) (mg_F 5) (mg_N 5)).all goodWord = true := by decide +kernel
theorem mg_nm5 : (∀ a, a < mg_N 5 → ∀ b, b < mg_N 5 → a ≠ b → (mg_F 5 a).2.1 ≠ (mg_F 5 b).2.1) ∧ (∀ k, k < mg_N 5 → parseFieldDescriptor (mg_F 5 k).2.2.1 = some (mg_ty 5 k)) ∧ (∀ k, k < mg_N 5 → (mg_F 5 k).1 = mg_R 5) := by decide +kernel
theorem mg_lay6 : (u_ws (mg_R 6) (mg_F 6) (mg_N 6)).map some = [311, 313, 315, 317, 319, 321].map (fun i => lw_tbl[i]?) ∧ (u_ws (mg_R 6) (mg_F 6) (mg_N 6)).all goodWord = true := by decide +kernel
theorem mg_nm6 : (∀ a, a < mg_N 6 → ∀ b, b < mg_N 6 → a ≠ b → (mg_F 6 a).2.1 ≠ (mg_F 6 b).2.1) ∧ (∀ k, k < mg_N 6 → parseFieldDescriptor (mg_F 6 k).2.2.1 = some (mg_ty 6 k)) ∧ (∀ k, k < mg_N 6 → (mg_F 6 k).1 = mg_R 6) := by decide +kernel
theorem mg_lay7 : (u_ws (mg_R 7) (mg_F 7) (mg_N 7)).map some = [1120, 1122, 1124, 1126, 1128, 1130, 1132, 1134, 1136, 1138, 1140, 1142, 1144, 1146, 1148, 1150, 1152, 1154, 1156, 1158, 1160, 1162, 1164, 1166, 1168, 1170, 1172, 1174, 1176, 1178, 1180, 1182, 1184, 1186, 1188, 1190, 1192].map (fun i => lw_tbl[i]?) ∧ (u_ws (mg_R 7) (mg_F 7) (mg_N 7)).all goodWord = true := by decide +kernel
theorem mg_nm7 : (∀ a, a < mg_N 7 → ∀ b, b < mg_N 7 → a ≠ b → (mg_F 7 a).2.1 ≠ (mg_F 7 b).2.1) ∧ (∀ k, k < mg_N 7 → parseFieldDescriptor (mg_F 7 k).2.2.1 = some (mg_ty 7 k)) ∧ (∀ k, k < mg_N 7 → (mg_F 7 k).1 = mg_R 7) := by decide +kernel
def mg_mt : List mg_Q := mg_mt0 ++ (mg_mt1 ++ (mg_mt2 ++ (mg_mt3 ++ (mg_mt4 ++ (mg_mt5 ++ (mg_mt6 ++ (mg_mt7)))))))
/-- the words that a call of a method needs -/
def mg_cw (q : mg_Q) : Cond := match q.2.2.2.2.1 with
  | [] => .code q.1 q.2.1 q.2.2.1 q.2.2.2.1
  | h :: t => .codeWith q.1 q.2.1 q.2.2.1 q.2.2.2.1 (h :: t)
def mg_cws (q : mg_Q) : List Cond := .initialized q.1.cls :: (bif Nat.beq q.2.2.2.2.2.2.2.2 0 then [.static q.1] else bif Nat.blt q.2.2.2.2.2.2.2.2 100 then [.instanceMethod q.1, .selects q.1.cls q.1 q.1] else [.instanceMethod q.1])
set_option maxRecDepth 100000 in
theorem mg_ck0 : (mg_mt0.map fun q => some (mg_cw q)) = [101, 207, 211, 546, 179, 183, 356, 593, 410, 556, 616, 638, 672, 250, 571, 585, 597, 94, 175, 203, 646, 859, 642, 542, 351, 848, 382, 886, 804, 907].map (fun i => lw_tbl[i]?) := rfl
theorem mg_cl0 : (mg_mt0.map fun q => (mg_cws q).map some) = [[58, 100], [58, 205, 206], [58, 209, 210], [58, 544, 545], [58, 177, 178], [58, 181, 182], [58, 354, 355], [58, 591, 592], [58, 408, 409], [58, 554, 555], [58, 614, 615], [58, 636, 637], [58, 670, 671], [60, 249], [60, 569, 570], [60, 583, 584], [60, 595, 596], [57, 93], [57, 173, 174], [57, 201, 202], [57, 644, 645], [57, 857, 858], [57, 640, 641], [57, 540, 541], [57, 349, 350], [57, 846, 847], [57, 380, 381], [57, 884, 885], [57, 802, 803], [57, 905, 906]].map (fun l => l.map (fun i => lw_tbl[i]?)) := by decide +kernel
theorem mg_cg0 : mg_mt0.all (fun q => goodWord (mg_cw q) && (mg_cws q).all goodWord && plainName q.1.cls && (decide ((parseMethodDescriptor q.1.desc).map (fun s => s.parameters.length + (bif Nat.beq q.2.2.2.2.2.2.2.2 0 then 0 else 1)) = some q.2.2.2.2.2.2.2.1)) && decide (q.1.cls ≠ "java/lang/invoke/MethodHandle" ∧ q.1.cls ≠ "java/lang/invoke/VarHandle") && decide (q.2.2.1 ≤ 20) && (bif Nat.beq q.2.2.2.2.2.2.2.2 0 then true else bif Nat.blt q.2.2.2.2.2.2.2.2 100 then decide (q.1.cls = mg_R q.2.2.2.2.2.2.2.2) else decide (q.1.cls = mg_R (q.2.2.2.2.2.2.2.2 - 100) ∧ q.1.name = "<init>" ∧ q.2.2.2.1 = none))) = true := by decide +kernel
set_option maxRecDepth 100000 in
theorem mg_ck1 : (mg_mt1.map fun q => some (mg_cw q)) = [406, 720, 390, 285, 901, 366, 913, 88, 191, 195, 563, 535, 199, 187, 343, 167, 171, 552, 612, 634, 668, 559, 649, 726, 941, 945, 734, 738, 730, 581].map (fun i => lw_tbl[i]?) := rfl
theorem mg_cl1 : (mg_mt1.map fun q => (mg_cws q).map some) = [[57, 404, 405], [57, 718, 719], [57, 388, 389], [61, 284], [61, 899, 900], [61, 364, 365], [61, 911, 912], [56, 87], [56, 189, 190], [56, 193, 194], [56, 561, 562], [56, 533, 534], [56, 198, 3], [56, 186, 2], [56, 341, 342], [56, 166, 0], [56, 170, 1], [56, 550, 551], [56, 610, 611], [56, 632, 633], [56, 666, 667], [56, 558], [56, 648], [56, 724, 725], [56, 939, 940], [56, 944, 15], [56, 733, 11], [56, 736, 737], [56, 728, 729], [56, 579, 580]].map (fun l => l.map (fun i => lw_tbl[i]?)) := by decide +kernel
theorem mg_cg1 : mg_mt1.all (fun q => goodWord (mg_cw q) && (mg_cws q).all goodWord && plainName q.1.cls && (decide ((parseMethodDescriptor q.1.desc).map (fun s => s.parameters.length + (bif Nat.beq q.2.2.2.2.2.2.2.2 0 then 0 else 1)) = some q.2.2.2.2.2.2.2.1)) && decide (q.1.cls ≠ "java/lang/invoke/MethodHandle" ∧ q.1.cls ≠ "java/lang/invoke/VarHandle") && decide (q.2.2.1 ≤ 20) && (bif Nat.beq q.2.2.2.2.2.2.2.2 0 then true else bif Nat.blt q.2.2.2.2.2.2.2.2 100 then decide (q.1.cls = mg_R q.2.2.2.2.2.2.2.2) else decide (q.1.cls = mg_R (q.2.2.2.2.2.2.2.2 - 100) ∧ q.1.name = "<init>" ∧ q.2.2.2.1 = none))) = true := by decide +kernel
set_option maxRecDepth 100000 in
theorem mg_ck2 : (mg_mt2.map fun q => some (mg_cw q)) = [589, 831, 835, 854, 873, 918, 922, 398, 402, 163, 80, 327, 331, 335, 339, 498, 606, 623, 657, 681, 745, 756, 763, 770, 777, 784, 791, 799, 811, 819].map (fun i => lw_tbl[i]?) := rfl
theorem mg_cl2 : (mg_mt2.map fun q => (mg_cws q).map some) = [[56, 588, 8], [56, 829, 830], [56, 834, 13], [56, 852, 853], [56, 871, 872], [56, 916, 917], [56, 921, 14], [56, 396, 397], [56, 401, 4], [59, 162], [55, 79], [55, 325, 326], [55, 329, 330], [55, 333, 334], [55, 337, 338], [55, 496, 497], [55, 604, 605], [55, 621, 622], [55, 655, 656], [55, 679, 680], [55, 743, 744], [55, 754, 755], [55, 761, 762], [55, 768, 769], [55, 775, 776], [55, 782, 783], [55, 789, 790], [55, 797, 798], [55, 809, 810], [55, 817, 818]].map (fun l => l.map (fun i => lw_tbl[i]?)) := by decide +kernel
theorem mg_cg2 : mg_mt2.all (fun q => goodWord (mg_cw q) && (mg_cws q).all goodWord && plainName q.1.cls && (decide ((parseMethodDescriptor q.1.desc).map (fun s => s.parameters.length + (bif Nat.beq q.2.2.2.2.2.2.2.2 0 then 0 else 1)) = some q.2.2.2.2.2.2.2.1)) && decide (q.1.cls ≠ "java/lang/invoke/MethodHandle" ∧ q.1.cls ≠ "java/lang/invoke/VarHandle") && decide (q.2.2.1 ≤ 20) && (bif Nat.beq q.2.2.2.2.2.2.2.2 0 then true else bif Nat.blt q.2.2.2.2.2.2.2.2 100 then decide (q.1.cls = mg_R q.2.2.2.2.2.2.2.2) else decide (q.1.cls = mg_R (q.2.2.2.2.2.2.2.2 - 100) ∧ q.1.name = "<init>" ∧ q.2.2.2.1 = none))) = true := by decide +kernel
set_option maxRecDepth 100000 in
theorem mg_ck3 : (mg_mt3.map fun q => some (mg_cw q)) = [347, 827, 843, 867, 881, 362, 893, 929, 374, 937, 952, 959, 966, 979, 987, 995, 1006, 1014, 1040, 378, 1062, 386, 394, 627, 661, 749, 896, 969, 531, 567].map (fun i => lw_tbl[i]?) := rfl
theorem mg_cl3 : (mg_mt3.map fun q => (mg_cws q).map some) = [[55, 345, 346], [55, 825, 826], [55, 841, 842], [55, 865, 866], [55, 879, 880], [55, 360, 361], [55, 891, 892], [55, 927, 928], [55, 372, 373], [55, 935, 936], [55, 950, 951], [55, 957, 958], [55, 964, 965], [55, 977, 978], [55, 985, 986], [55, 993, 994], [55, 1004, 1005], [55, 1012, 1013], [55, 1038, 1039], [55, 376, 377], [55, 1060, 1061], [55, 384, 385], [55, 392, 393], [55, 626, 9], [55, 660, 10], [55, 748, 12], [55, 895], [55, 968], [55, 530, 6], [55, 566, 7]].map (fun l => l.map (fun i => lw_tbl[i]?)) := by decide +kernel
theorem mg_cg3 : mg_mt3.all (fun q => goodWord (mg_cw q) && (mg_cws q).all goodWord && plainName q.1.cls && (decide ((parseMethodDescriptor q.1.desc).map (fun s => s.parameters.length + (bif Nat.beq q.2.2.2.2.2.2.2.2 0 then 0 else 1)) = some q.2.2.2.2.2.2.2.1)) && decide (q.1.cls ≠ "java/lang/invoke/MethodHandle" ∧ q.1.cls ≠ "java/lang/invoke/VarHandle") && decide (q.2.2.1 ≤ 20) && (bif Nat.beq q.2.2.2.2.2.2.2.2 0 then true else bif Nat.blt q.2.2.2.2.2.2.2.2 100 then decide (q.1.cls = mg_R q.2.2.2.2.2.2.2.2) else decide (q.1.cls = mg_R (q.2.2.2.2.2.2.2.2 - 100) ∧ q.1.name = "<init>" ∧ q.2.2.2.1 = none))) = true := by decide +kernel
set_option maxRecDepth 100000 in
theorem mg_ck4 : (mg_mt4.map fun q => some (mg_cw q)) = [999, 1017, 1069, 1198, 1225, 1221, 1301, 1078, 1074, 1082, 1229, 1257, 1253, 1261, 1249, 1245, 1265, 1241, 1349, 1202, 1206, 1210, 1214, 1233, 1237, 1218, 1269, 1273, 1277, 1285].map (fun i => lw_tbl[i]?) := rfl
theorem mg_cl4 : (mg_mt4.map fun q => (mg_cws q).map some) = [[55, 998], [55, 1016], [62, 1068], [62, 1196, 1197], [62, 1224, 19], [62, 1220], [62, 1300, 33], [62, 1077, 17], [62, 1073, 16], [62, 1081, 18], [62, 1228, 20], [62, 1256, 27], [62, 1252, 26], [62, 1260, 28], [62, 1248, 25], [62, 1244, 24], [62, 1264, 29], [62, 1240, 23], [62, 1348, 38], [62, 1200, 1201], [62, 1204, 1205], [62, 1208, 1209], [62, 1212, 1213], [62, 1232, 21], [62, 1236, 22], [62, 1216, 1217], [62, 1267, 1268], [62, 1271, 1272], [62, 1275, 1276], [62, 1284, 30]].map (fun l => l.map (fun i => lw_tbl[i]?)) := by decide +kernel
theorem mg_cg4 : mg_mt4.all (fun q => goodWord (mg_cw q) && (mg_cws q).all goodWord && plainName q.1.cls && (decide ((parseMethodDescriptor q.1.desc).map (fun s => s.parameters.length + (bif Nat.beq q.2.2.2.2.2.2.2.2 0 then 0 else 1)) = some q.2.2.2.2.2.2.2.1)) && decide (q.1.cls ≠ "java/lang/invoke/MethodHandle" ∧ q.1.cls ≠ "java/lang/invoke/VarHandle") && decide (q.2.2.1 ≤ 20) && (bif Nat.beq q.2.2.2.2.2.2.2.2 0 then true else bif Nat.blt q.2.2.2.2.2.2.2.2 100 then decide (q.1.cls = mg_R q.2.2.2.2.2.2.2.2) else decide (q.1.cls = mg_R (q.2.2.2.2.2.2.2.2 - 100) ∧ q.1.name = "<init>" ∧ q.2.2.2.1 = none))) = true := by decide +kernel
set_option maxRecDepth 100000 in
theorem mg_ck5 : (mg_mt5.map fun q => some (mg_cw q)) = [1289, 1281, 1297, 1305, 1313, 1321, 1329, 1293, 1309, 1317, 1325, 1333, 1337, 1341, 1345, 1357, 1353, 1361, 1369, 1365, 1373, 1381, 1385, 1377, 1389, 1393, 1401, 1397, 1405, 1409].map (fun i => lw_tbl[i]?) := rfl
theorem mg_cl5 : (mg_mt5.map fun q => (mg_cws q).map some) = [[62, 1288, 31], [62, 1279, 1280], [62, 1296, 32], [62, 1304, 34], [62, 1312, 35], [62, 1320, 36], [62, 1328, 37], [62, 1291, 1292], [62, 1307, 1308], [62, 1315, 1316], [62, 1323, 1324], [62, 1331, 1332], [62, 1335, 1336], [62, 1339, 1340], [62, 1343, 1344], [62, 1356, 39], [62, 1351, 1352], [62, 1359, 1360], [62, 1368, 40], [62, 1363, 1364], [62, 1371, 1372], [62, 1380, 41], [62, 1384, 42], [62, 1375, 1376], [62, 1387, 1388], [62, 1392, 43], [62, 1400, 45], [62, 1396, 44], [62, 1404, 46], [62, 1407, 1408]].map (fun l => l.map (fun i => lw_tbl[i]?)) := by decide +kernel
theorem mg_cg5 : mg_mt5.all (fun q => goodWord (mg_cw q) && (mg_cws q).all goodWord && plainName q.1.cls && (decide ((parseMethodDescriptor q.1.desc).map (fun s => s.parameters.length + (bif Nat.beq q.2.2.2.2.2.2.2.2 0 then 0 else 1)) = some q.2.2.2.2.2.2.2.1)) && decide (q.1.cls ≠ "java/lang/invoke/MethodHandle" ∧ q.1.cls ≠ "java/lang/invoke/VarHandle") && decide (q.2.2.1 ≤ 20) && (bif Nat.beq q.2.2.2.2.2.2.2.2 0 then true else bif Nat.blt q.2.2.2.2.2.2.2.2 100 then decide (q.1.cls = mg_R q.2.2.2.2.2.2.2.2) else decide (q.1.cls = mg_R (q.2.2.2.2.2.2.2.2 - 100) ∧ q.1.name = "<init>" ∧ q.2.2.2.1 = none))) = true := by decide +kernel
set_option maxRecDepth 100000 in
theorem mg_ck6 : (mg_mt6.map fun q => some (mg_cw q)) = [1413, 1425, 1421, 1417, 1429, 1437, 1433, 1445, 1441, 1449, 1453, 1461, 1457, 1465, 1469, 1473, 1477, 1481, 1485, 1489, 1496, 1493, 1500, 1504, 1508, 1512, 413, 602, 619, 653].map (fun i => lw_tbl[i]?) := rfl
theorem mg_cl6 : (mg_mt6.map fun q => (mg_cws q).map some) = [[62, 1411, 1412], [62, 1424, 48], [62, 1420, 47], [62, 1415, 1416], [62, 1428, 49], [62, 1436, 51], [62, 1432, 50], [62, 1444, 52], [62, 1439, 1440], [62, 1447, 1448], [62, 1451, 1452], [62, 1460, 53], [62, 1455, 1456], [62, 1463, 1464], [62, 1467, 1468], [62, 1471, 1472], [62, 1475, 1476], [62, 1479, 1480], [62, 1483, 1484], [62, 1487, 1488], [62, 1495], [62, 1491, 1492], [62, 1498, 1499], [62, 1502, 1503], [62, 1506, 1507], [62, 1510, 1511], [54, 412], [54, 601], [54, 618], [54, 652]].map (fun l => l.map (fun i => lw_tbl[i]?)) := by decide +kernel
theorem mg_cg6 : mg_mt6.all (fun q => goodWord (mg_cw q) && (mg_cws q).all goodWord && plainName q.1.cls && (decide ((parseMethodDescriptor q.1.desc).map (fun s => s.parameters.length + (bif Nat.beq q.2.2.2.2.2.2.2.2 0 then 0 else 1)) = some q.2.2.2.2.2.2.2.1)) && decide (q.1.cls ≠ "java/lang/invoke/MethodHandle" ∧ q.1.cls ≠ "java/lang/invoke/VarHandle") && decide (q.2.2.1 ≤ 20) && (bif Nat.beq q.2.2.2.2.2.2.2.2 0 then true else bif Nat.blt q.2.2.2.2.2.2.2.2 100 then decide (q.1.cls = mg_R q.2.2.2.2.2.2.2.2) else decide (q.1.cls = mg_R (q.2.2.2.2.2.2.2.2 - 100) ∧ q.1.name = "<init>" ∧ q.2.2.2.1 = none))) = true := by decide +kernel
set_option maxRecDepth 100000 in
theorem mg_ck7 : (mg_mt7.map fun q => some (mg_cw q)) = [675, 741, 752, 759, 766, 773, 780, 787, 795, 807, 815, 823, 839, 863, 877, 889, 925, 933, 948, 955, 962, 975, 983, 991, 1002, 1009, 1036, 1044].map (fun i => lw_tbl[i]?) := rfl
theorem mg_cl7 : (mg_mt7.map fun q => (mg_cws q).map some) = [[54, 674], [54, 740], [54, 751], [54, 758], [54, 765], [54, 772], [54, 779], [54, 786], [54, 794], [54, 806], [54, 814], [54, 822], [54, 838], [54, 862], [54, 876], [54, 888], [54, 924], [54, 932], [54, 947], [54, 954], [54, 961], [54, 974], [54, 982], [54, 990], [54, 1001], [54, 1008], [54, 1035], [54, 1043]].map (fun l => l.map (fun i => lw_tbl[i]?)) := by decide +kernel
theorem mg_cg7 : mg_mt7.all (fun q => goodWord (mg_cw q) && (mg_cws q).all goodWord && plainName q.1.cls && (decide ((parseMethodDescriptor q.1.desc).map (fun s => s.parameters.length + (bif Nat.beq q.2.2.2.2.2.2.2.2 0 then 0 else 1)) = some q.2.2.2.2.2.2.2.1)) && decide (q.1.cls ≠ "java/lang/invoke/MethodHandle" ∧ q.1.cls ≠ "java/lang/invoke/VarHandle") && decide (q.2.2.1 ≤ 20) && (bif Nat.beq q.2.2.2.2.2.2.2.2 0 then true else bif Nat.blt q.2.2.2.2.2.2.2.2 100 then decide (q.1.cls = mg_R q.2.2.2.2.2.2.2.2) else decide (q.1.cls = mg_R (q.2.2.2.2.2.2.2.2 - 100) ∧ q.1.name = "<init>" ∧ q.2.2.2.1 = none))) = true := by decide +kernel
def mg_ex : Nat → String := fun k => match k with
  | 1 => "java/lang/IndexOutOfBoundsException"
  | 2 => "java/lang/IllegalStateException"
  | 3 => "java/lang/IllegalArgumentException"
  | 4 => "java/lang/UnsupportedOperationException"
  | 5 => "java/util/NoSuchElementException"
  | _ => "java/lang/ArithmeticException"
/-- the texts of what is thrown, by their places -/
def mg_str : List (Nat × String) := [(66, "no such place for a row"), (73, "no more rows"), (86, "no such place for a column"), (88, "no more columns"), (96, "the only row"), (104, "the only column"), (111, "the same row"), (120, "from the header to the body or back"), (136, "a cell covers several rows"), (160, "no such content"), (162, "no such style"), (187, "no such side"), (196, "only one cell"), (201, "several cells are not empty"), (203, "in the header and in the body"), (208, "no such kind"), (210, "only one part"), (216, "all of them are empty"), (229, "no such number of times"), (235, "nothing was copied"), (239, "beyond the table"), (245, "a cell lies there and elsewhere"), (258, "no such number of rows"), (277, "no such width"), (279, "no such height"), (281, "the last column"), (283, "not behind the first one"), (294, "no cell lies there"), (301, "no change"), (318, "no such row"), (323, "no such column")]
theorem mg_strk : (mg_str.map fun q => some (Cond.stringRef "MergeGrid" q.1 q.2)) = [508, 521, 607, 608, 630, 664, 691, 708, 722, 792, 800, 820, 844, 849, 850, 868, 869, 882, 897, 902, 903, 909, 930, 972, 980, 988, 996, 1027, 1041, 629, 663].map (fun i => lw_tbl[i]?) := by decide +kernel
/-- words that no list of good ones has -/
def mg_nwC : List String := ["java/lang/IndexOutOfBoundsException", "java/lang/IllegalStateException", "java/lang/IllegalArgumentException", "java/lang/UnsupportedOperationException", "java/util/NoSuchElementException", "java/lang/ArithmeticException"]
def mg_nwN : List (String × Nat × MethodName) := [("MergeGrid$CellList", 17, ⟨"MergeGrid$Cell", "<init>", "()V"⟩), ("MergeGrid", 21, ⟨"MergeGrid$Area", "<init>", "()V"⟩), ("MergeGrid", 31, ⟨"MergeGrid$Block", "<init>", "()V"⟩)]
theorem mg_nwk : (mg_nwC.map fun x => some (Cond.castable x x)) = [501, 514, 684, 701, 1020, 1057].map (fun i => lw_tbl[i]?) ∧ (mg_nwN.map fun q => some (Cond.methodLinkNest q.1 q.2.1 q.2.2 "MergeGrid")) = [99, 248, 283].map (fun i => lw_tbl[i]?) := by decide +kernel
def mg_nwD : List MethodName := [⟨"java/lang/RuntimeException", "<init>", "(Ljava/lang/String;)V"⟩, ⟨"java/lang/Exception", "<init>", "(Ljava/lang/String;)V"⟩, ⟨"java/lang/Throwable", "<init>", "(Ljava/lang/String;)V"⟩]
theorem mg_nwdk : (mg_nwD.map fun x => some (Cond.declares x)) = [473, 475, 477].map (fun i => lw_tbl[i]?) := by decide +kernel
theorem mg_at1 : (vx_atS "MergeGrid" 68 "java/lang/IndexOutOfBoundsException" ["java/lang/RuntimeException", "java/lang/Exception"]).all (fun w => decide (w ∈ mg_T) || decide (w = .castable "java/lang/IndexOutOfBoundsException" "java/lang/IndexOutOfBoundsException") || decide (w ∈ mg_nwD.map Cond.declares)) = true ∧ (vx_atS "MergeGrid" 68 "java/lang/IndexOutOfBoundsException" ["java/lang/RuntimeException", "java/lang/Exception"]).all vx_ot = true ∧ Bundle.fit "java/lang/IndexOutOfBoundsException" = true := by decide +kernel
theorem mg_at2 : (vx_atS "MergeGrid" 75 "java/lang/IllegalStateException" ["java/lang/RuntimeException", "java/lang/Exception"]).all (fun w => decide (w ∈ mg_T) || decide (w = .castable "java/lang/IllegalStateException" "java/lang/IllegalStateException") || decide (w ∈ mg_nwD.map Cond.declares)) = true ∧ (vx_atS "MergeGrid" 75 "java/lang/IllegalStateException" ["java/lang/RuntimeException", "java/lang/Exception"]).all vx_ot = true ∧ Bundle.fit "java/lang/IllegalStateException" = true := by decide +kernel
theorem mg_at3 : (vx_atS "MergeGrid" 113 "java/lang/IllegalArgumentException" ["java/lang/RuntimeException", "java/lang/Exception"]).all (fun w => decide (w ∈ mg_T) || decide (w = .castable "java/lang/IllegalArgumentException" "java/lang/IllegalArgumentException") || decide (w ∈ mg_nwD.map Cond.declares)) = true ∧ (vx_atS "MergeGrid" 113 "java/lang/IllegalArgumentException" ["java/lang/RuntimeException", "java/lang/Exception"]).all vx_ot = true ∧ Bundle.fit "java/lang/IllegalArgumentException" = true := by decide +kernel
theorem mg_at4 : (vx_atS "MergeGrid" 122 "java/lang/UnsupportedOperationException" ["java/lang/RuntimeException", "java/lang/Exception"]).all (fun w => decide (w ∈ mg_T) || decide (w = .castable "java/lang/UnsupportedOperationException" "java/lang/UnsupportedOperationException") || decide (w ∈ mg_nwD.map Cond.declares)) = true ∧ (vx_atS "MergeGrid" 122 "java/lang/UnsupportedOperationException" ["java/lang/RuntimeException", "java/lang/Exception"]).all vx_ot = true ∧ Bundle.fit "java/lang/UnsupportedOperationException" = true := by decide +kernel
theorem mg_at5 : ((mg_ownX "MergeGrid" 296 "java/util/NoSuchElementException" 13 prog_23_method_4_code ["java/lang/RuntimeException", "java/lang/Exception"]).filter vx_no).all (fun w => decide (w ∈ mg_T) || decide (w = .castable "java/util/NoSuchElementException" "java/util/NoSuchElementException") || decide (w ∈ mg_nwD.map Cond.declares)) = true ∧ ((mg_ownX "MergeGrid" 296 "java/util/NoSuchElementException" 13 prog_23_method_4_code ["java/lang/RuntimeException", "java/lang/Exception"]).filter vx_no).all vx_ot = true ∧ Bundle.fit "java/util/NoSuchElementException" = true := by decide +kernel
theorem mg_at6 : (vx_atS "MergeGrid" 308 "java/lang/ArithmeticException" ["java/lang/RuntimeException", "java/lang/Exception"]).all (fun w => decide (w ∈ mg_T) || decide (w = .castable "java/lang/ArithmeticException" "java/lang/ArithmeticException") || decide (w ∈ mg_nwD.map Cond.declares)) = true ∧ (vx_atS "MergeGrid" 308 "java/lang/ArithmeticException" ["java/lang/RuntimeException", "java/lang/Exception"]).all vx_ot = true ∧ Bundle.fit "java/lang/ArithmeticException" = true := by decide +kernel
theorem mg_x5 : decode prog_23_method_4_code 0 = .ok (.aload_n 0, 1) ∧ decode prog_23_method_4_code 1 = .ok (.aload_n 1, 1) ∧ decode prog_23_method_4_code 2 = .ok (.invokespecial 13, 3) ∧ decode prog_23_method_4_code 5 = .ok (.return_, 1) := by decide +kernel
theorem mg_fitN : ∀ n ∈ ["java/lang/RuntimeException", "java/lang/Exception"], Bundle.fit n = true := by decide +kernel
end
section
def mg_nm (y : Nat) : MethodName := match mg_mt[y - 1]? with
  | some q => q.1
  | none => Lib.objectInit
def mg_fp : List (Nat × Nat × Nat × Nat) := [(1, 13, 1, 0), (1, 19, 1, 1), (1, 25, 1, 2), (1, 28, 1, 3), (1, 31, 3, 0), (1, 34, 3, 1), (2, 10, 2, 2), (2, 16, 2, 0), (2, 20, 1, 2), (2, 25, 1, 0), (2, 28, 1, 3), (2, 31, 1, 1), (2, 34, 2, 1), (2, 37, 4, 0), (2, 50, 3, 0), (2, 51, 3, 1), (2, 52, 3, 2), (2, 53, 3, 3), (2, 58, 3, 4), (2, 61, 3, 5), (3, 7, 3, 0), (3, 13, 3, 1), (3, 16, 3, 2), (3, 19, 3, 3), (3, 22, 3, 4), (3, 25, 3, 5), (3, 36, 1, 0), (3, 43, 1, 2), (3, 45, 1, 1), (3, 49, 1, 3), (4, 11, 4, 1), (4, 18, 4, 2), (4, 22, 4, 0), (4, 46, 3, 2), (4, 49, 3, 3), (4, 56, 3, 4), (4, 59, 3, 5), (4, 69, 3, 0), (5, 9, 5, 0), (5, 15, 5, 1), (5, 18, 5, 3), (5, 22, 5, 4), (5, 28, 5, 5), (5, 32, 5, 6), (5, 35, 5, 7), (5, 38, 5, 8), (5, 50, 5, 2), (5, 78, 4, 0), (5, 93, 3, 0), (5, 102, 3, 1), (5, 146, 3, 4), (5, 173, 1, 0), (5, 174, 1, 1), (5, 175, 1, 2), (5, 177, 1, 3), (5, 183, 3, 5), (5, 192, 3, 2), (5, 193, 3, 3), (5, 198, 2, 2), (5, 201, 2, 0), (5, 202, 2, 1), (6, 12, 6, 0), (6, 16, 6, 1), (6, 22, 6, 3), (6, 26, 6, 4), (6, 32, 6, 5), (6, 36, 5, 0), (6, 40, 5, 1), (6, 43, 5, 5), (6, 47, 4, 0), (6, 56, 3, 0), (6, 61, 3, 1), (6, 152, 3, 2), (6, 153, 3, 3), (6, 154, 3, 4), (6, 157, 3, 5), (6, 179, 1, 0), (6, 180, 1, 2), (6, 183, 1, 1), (6, 184, 1, 3), (6, 225, 2, 2), (6, 237, 2, 0), (6, 238, 2, 1), (6, 247, 5, 2), (6, 266, 5, 4), (6, 270, 5, 3), (6, 297, 6, 2), (7, 7, 7, 1), (7, 13, 7, 2), (7, 16, 7, 5), (7, 20, 7, 6), (7, 23, 7, 7), (7, 26, 7, 8), (7, 29, 7, 9), (7, 32, 7, 14), (7, 35, 7, 15), (7, 38, 7, 16), (7, 41, 7, 17), (7, 44, 7, 18), (7, 47, 7, 19), (7, 50, 7, 20), (7, 53, 7, 28), (7, 56, 7, 29), (7, 59, 7, 30), (7, 62, 7, 31), (7, 65, 7, 36), (7, 71, 7, 0), (7, 78, 7, 4), (7, 89, 7, 10), (7, 93, 7, 11), (7, 96, 7, 12), (7, 99, 7, 3), (7, 102, 7, 13), (7, 105, 7, 32), (7, 108, 7, 33), (7, 111, 7, 34), (7, 114, 7, 35), (7, 132, 7, 21), (7, 135, 7, 22), (7, 138, 7, 23), (7, 141, 7, 24), (7, 223, 7, 25), (7, 226, 7, 26), (7, 229, 7, 27)]
theorem mg_fpk : (mg_fp.map fun q => some (Cond.fieldLink (mg_R q.1) q.2.1 (mg_F q.2.2.1 q.2.2.2).1 (mg_F q.2.2.1 q.2.2.2).2.1 (mg_F q.2.2.1 q.2.2.2).2.2.1)) = [252, 257, 262, 267, 105, 111, 295, 289, 263, 253, 268, 258, 292, 149, 104, 110, 115, 120, 125, 130, 103, 109, 114, 119, 124, 129, 254, 264, 259, 269, 152, 153, 148, 116, 121, 126, 131, 108, 212, 214, 218, 220, 222, 224, 225, 226, 216, 151, 107, 113, 128, 256, 261, 266, 271, 133, 118, 123, 297, 291, 294, 305, 306, 308, 309, 310, 213, 215, 223, 150, 106, 112, 117, 122, 127, 132, 255, 265, 260, 270, 296, 290, 293, 217, 221, 219, 307, 1084, 1085, 1088, 1089, 1090, 1091, 1092, 1097, 1098, 1099, 1100, 1101, 1102, 1103, 1111, 1112, 1113, 1114, 1119, 1083, 1087, 1093, 1094, 1095, 1086, 1096, 1115, 1116, 1117, 1118, 1104, 1105, 1106, 1107, 1108, 1109, 1110].map (fun i => lw_tbl[i]?) := by decide +kernel
theorem mg_fpg : mg_fp.all (fun q => goodWord (Cond.fieldLink (mg_R q.1) q.2.1 (mg_F q.2.2.1 q.2.2.2).1 (mg_F q.2.2.1 q.2.2.2).2.1 (mg_F q.2.2.1 q.2.2.2).2.2.1)) = true := by decide +kernel
def mg_mp : List (Nat × Nat × Nat) := [(1, 35, 5), (1, 38, 6), (2, 9, 18), (2, 40, 19), (2, 44, 7), (2, 54, 20), (2, 64, 3), (2, 68, 31), (3, 28, 2), (3, 32, 3), (3, 39, 5), (3, 46, 6), (4, 26, 2), (4, 30, 3), (4, 34, 19), (4, 38, 7), (4, 42, 21), (4, 52, 4), (4, 62, 8), (4, 65, 9), (4, 72, 5), (5, 27, 18), (5, 41, 70), (5, 47, 46), (5, 59, 24), (5, 63, 39), (5, 67, 40), (5, 70, 43), (5, 74, 19), (5, 81, 47), (5, 85, 44), (5, 89, 20), (5, 98, 5), (5, 105, 6), (5, 108, 10), (5, 111, 52), (5, 115, 41), (5, 118, 11), (5, 121, 12), (5, 124, 23), (5, 127, 53), (5, 130, 13), (5, 138, 56), (5, 142, 45), (5, 149, 57), (5, 153, 16), (5, 158, 61), (5, 162, 8), (5, 166, 17), (5, 170, 63), (5, 179, 27), (5, 186, 22), (5, 189, 3), (5, 194, 2), (5, 203, 67), (5, 207, 69), (6, 11, 38), (6, 52, 45), (6, 76, 119), (6, 79, 48), (6, 83, 120), (6, 90, 49), (6, 93, 114), (6, 98, 50), (6, 101, 115), (6, 106, 51), (6, 114, 41), (6, 132, 32), (6, 138, 54), (6, 142, 59), (6, 145, 58), (6, 149, 116), (6, 164, 29), (6, 168, 15), (6, 172, 60), (6, 176, 16), (6, 189, 25), (6, 193, 62), (6, 198, 26), (6, 205, 64), (6, 212, 65), (6, 218, 28), (6, 221, 36), (6, 226, 117), (6, 231, 35), (6, 241, 30), (6, 250, 37), (6, 254, 66), (6, 260, 31), (6, 262, 55), (6, 273, 118), (6, 285, 121), (6, 289, 122), (6, 303, 27), (6, 309, 33), (6, 312, 68), (6, 315, 39), (6, 320, 40), (6, 329, 42), (7, 68, 129), (7, 74, 126), (7, 81, 128), (7, 85, 130), (7, 117, 132), (7, 121, 133), (7, 125, 134), (7, 129, 135), (7, 144, 136), (7, 148, 137), (7, 151, 125), (7, 154, 131), (7, 157, 144), (7, 160, 145), (7, 163, 138), (7, 166, 150), (7, 169, 151), (7, 172, 127), (7, 175, 155), (7, 179, 154), (7, 182, 153), (7, 185, 156), (7, 188, 157), (7, 191, 139), (7, 194, 166), (7, 198, 169), (7, 202, 172), (7, 205, 173), (7, 208, 176), (7, 212, 178), (7, 216, 179), (7, 219, 177), (7, 232, 183), (7, 236, 182), (7, 239, 185), (7, 242, 187), (7, 245, 186), (7, 248, 188), (7, 251, 192), (7, 254, 201), (9, 7, 76), (9, 17, 77), (9, 20, 78), (9, 23, 79), (9, 26, 80), (9, 34, 81), (9, 37, 82), (9, 40, 83), (9, 43, 84), (9, 46, 85), (9, 49, 86), (9, 52, 87), (9, 56, 88), (9, 59, 89), (9, 63, 90), (9, 67, 92), (9, 70, 93), (9, 74, 94), (9, 78, 95), (9, 81, 97), (9, 84, 98), (9, 87, 100), (9, 91, 101), (9, 94, 102), (9, 97, 103), (9, 100, 104), (9, 103, 105), (9, 106, 106), (9, 109, 107), (9, 112, 108), (9, 117, 109), (9, 121, 111), (9, 127, 71), (9, 130, 123), (9, 131, 72), (9, 134, 140), (9, 135, 73), (9, 138, 141), (9, 139, 74), (9, 142, 142), (9, 143, 75), (9, 146, 143), (9, 147, 207), (9, 152, 146), (9, 153, 124), (9, 156, 208), (9, 158, 147), (9, 159, 209), (9, 161, 148), (9, 162, 210), (9, 164, 149), (9, 165, 211), (9, 168, 152), (9, 169, 212), (9, 171, 158), (9, 172, 213), (9, 174, 159), (9, 175, 214), (9, 177, 160), (9, 178, 215), (9, 180, 161), (9, 181, 216), (9, 183, 162), (9, 184, 217), (9, 186, 163), (9, 187, 218), (9, 190, 164), (9, 191, 219), (9, 193, 165), (9, 194, 220), (9, 197, 167), (9, 198, 221), (9, 201, 168), (9, 202, 91), (9, 205, 170), (9, 206, 222), (9, 208, 171), (9, 209, 223), (9, 212, 174), (9, 213, 224), (9, 216, 175), (9, 217, 225), (9, 219, 180), (9, 220, 96), (9, 223, 181), (9, 224, 226), (9, 226, 184), (9, 227, 227), (9, 229, 189), (9, 230, 99), (9, 233, 190), (9, 234, 228), (9, 237, 191), (9, 238, 229), (9, 240, 193), (9, 241, 230), (9, 243, 194), (9, 244, 231), (9, 246, 195), (9, 247, 232), (9, 249, 196), (9, 250, 233), (9, 252, 197), (9, 253, 234), (9, 255, 198), (9, 256, 235), (9, 258, 199), (9, 259, 236), (9, 261, 200), (9, 262, 237), (9, 264, 202), (9, 265, 110), (9, 269, 203), (9, 270, 238), (9, 273, 204), (9, 274, 112), (9, 278, 205), (9, 279, 113), (9, 282, 206)]
theorem mg_mpk : (mg_mp.map fun q => some (Cond.methodLink (mg_R q.1) q.2.1 (mg_nm q.2.2))) = [598, 599, 288, 367, 368, 369, 370, 914, 547, 548, 357, 358, 204, 208, 352, 353, 643, 543, 908, 407, 721, 92, 161, 164, 539, 188, 192, 196, 172, 168, 184, 200, 176, 180, 553, 557, 560, 613, 635, 639, 647, 669, 942, 836, 731, 582, 586, 590, 594, 832, 855, 856, 860, 874, 919, 399, 86, 340, 528, 549, 564, 609, 624, 631, 658, 665, 698, 717, 723, 727, 735, 746, 801, 568, 578, 812, 348, 828, 845, 851, 870, 883, 363, 894, 898, 904, 910, 915, 403, 938, 967, 997, 1015, 379, 387, 395, 628, 662, 532, 1071, 1219, 1075, 1079, 1254, 1250, 1258, 1246, 1242, 1262, 1222, 1226, 1230, 1234, 1238, 1282, 1286, 1298, 1310, 1302, 1294, 1318, 1326, 1346, 1354, 1366, 1378, 1382, 1390, 1394, 1402, 1398, 1418, 1422, 1426, 1430, 1434, 1442, 1458, 1494, 495, 603, 620, 654, 678, 742, 753, 760, 767, 774, 781, 788, 796, 808, 816, 824, 840, 864, 878, 890, 926, 934, 949, 956, 963, 976, 984, 992, 1003, 1011, 1037, 1059, 78, 1067, 324, 1199, 328, 1203, 332, 1207, 336, 1211, 411, 1215, 1195, 600, 1266, 617, 1270, 651, 1274, 673, 1278, 739, 1290, 750, 1306, 757, 1314, 764, 1322, 771, 1330, 778, 1334, 785, 1338, 793, 1342, 805, 1350, 813, 1358, 344, 1362, 821, 1370, 837, 1374, 861, 1386, 875, 1406, 359, 1410, 887, 1414, 923, 1438, 371, 1446, 931, 1450, 946, 1454, 953, 1462, 960, 1466, 973, 1470, 981, 1474, 989, 1478, 1000, 1482, 1007, 1486, 1034, 1490, 375, 1497, 1042, 1501, 383, 1505, 391, 1509].map (fun i => lw_tbl[i]?) := by decide +kernel
theorem mg_mpg : mg_mp.all (fun q => goodWord (Cond.methodLink (mg_R q.1) q.2.1 (mg_nm q.2.2))) = true := by decide +kernel
def mg_cp : List (Nat × Nat × Nat) := [(2, 7, 4), (4, 9, 3), (5, 25, 4), (6, 9, 5), (6, 19, 1), (6, 29, 2), (9, 8, 6), (9, 128, 7)]
theorem mg_cpk : (mg_cp.map fun q => some (Cond.classLink (mg_R q.1) q.2.1 (mg_R q.2.2))) = [287, 96, 90, 84, 246, 281, 76, 1065].map (fun i => lw_tbl[i]?) := by decide +kernel
theorem mg_cpg : mg_cp.all (fun q => goodWord (Cond.classLink (mg_R q.1) q.2.1 (mg_R q.2.2))) = true := by decide +kernel
def mg_kp : List (Nat × Nat × Nat) := [(6, 325, 10), (6, 327, 200)]
theorem mg_kpk : (mg_kp.map fun q => some (Cond.constantLong (mg_R q.1) q.2.1 (Int64.ofInt (q.2.2 : Int)))) = [970, 971].map (fun i => lw_tbl[i]?) := by decide +kernel
theorem mg_kpg : mg_kp.all (fun q => goodWord (Cond.constantLong (mg_R q.1) q.2.1 (Int64.ofInt (q.2.2 : Int)))) = true := by decide +kernel
def mg_tp : List (Nat × Nat × Nat × Nat) := [(64, 66, 68, 1), (64, 86, 68, 1), (64, 281, 68, 1), (64, 318, 68, 1), (64, 323, 68, 1), (71, 73, 75, 2), (71, 88, 75, 2), (71, 96, 75, 2), (71, 104, 75, 2), (71, 196, 75, 2), (71, 210, 75, 2), (71, 216, 75, 2), (71, 235, 75, 2), (71, 239, 75, 2), (71, 301, 75, 2), (109, 111, 113, 3), (109, 160, 113, 3), (109, 162, 113, 3), (109, 187, 113, 3), (109, 208, 113, 3), (109, 229, 113, 3), (109, 258, 113, 3), (109, 277, 113, 3), (109, 279, 113, 3), (109, 283, 113, 3), (118, 120, 122, 4), (118, 136, 122, 4), (118, 201, 122, 4), (118, 203, 122, 4), (118, 245, 122, 4), (118, 277, 122, 4), (292, 294, 296, 5), (306, 216, 308, 6)]
theorem mg_tpk : (mg_tp.map fun q => some (Cond.classLink "MergeGrid" q.1 (mg_ex q.2.2.2))) = [499, 499, 499, 499, 499, 512, 512, 512, 512, 512, 512, 512, 512, 512, 512, 682, 682, 682, 682, 682, 682, 682, 682, 682, 682, 699, 699, 699, 699, 699, 699, 1018, 1063].map (fun i => lw_tbl[i]?) := by decide +kernel
theorem mg_tpg : mg_tp.all (fun q => goodWord (Cond.classLink "MergeGrid" q.1 (mg_ex q.2.2.2))) = true := by decide +kernel
def mg_lib : Nat → MethodName := fun k => match k with
  | 0 => Lib.objectInit
  | 1000 => Lib.Math.max.name
  | 1001 => Lib.Math.min.name
  | _ => arraycopyName
def mg_lp : List (Nat × Nat × Nat) := [(1, 1, 0), (1, 7, 1001), (1, 22, 1000), (2, 1, 0), (3, 1, 0), (4, 3, 0), (5, 3, 0), (5, 53, 1002), (5, 133, 1000), (6, 3, 0), (6, 123, 1001), (6, 129, 1000), (7, 1, 0)]
theorem mg_lpk : (mg_lp.map fun q => some (Cond.methodLink (mg_R q.1) q.2.1 (mg_lib q.2.2))) = [251, 572, 575, 286, 102, 95, 89, 536, 650, 81, 715, 716, 1070].map (fun i => lw_tbl[i]?) := by decide +kernel
theorem mg_lpg : mg_lp.all (fun q => goodWord (Cond.methodLink (mg_R q.1) q.2.1 (mg_lib q.2.2))) = true := by decide +kernel
def mg_hp : List (Nat × Nat) := [(13, 1), (15, 2), (30, 3), (32, 4), (115, 5), (125, 6)]
theorem mg_hpk : (mg_hp.map fun q => some (Cond.classLink "MergeGridLaw" q.1 (mg_ex q.2))) = [414, 494, 676, 677, 1010, 1045].map (fun i => lw_tbl[i]?) := by decide +kernel
theorem mg_hpg : mg_hp.all (fun q => goodWord (Cond.classLink "MergeGridLaw" q.1 (mg_ex q.2))) = true := by decide +kernel
theorem mg_tps : mg_tp.all (fun q => decide (q.2.1 ∈ mg_str.map Prod.fst) && decide ((q.2.2.2 = 1 ∧ q.2.2.1 = 68) ∨ (q.2.2.2 = 2 ∧ q.2.2.1 = 75) ∨ (q.2.2.2 = 3 ∧ q.2.2.1 = 113) ∨ (q.2.2.2 = 4 ∧ q.2.2.1 = 122) ∨ (q.2.2.2 = 5 ∧ q.2.2.1 = 296) ∨ (q.2.2.2 = 6 ∧ q.2.2.1 = 308))) = true := by decide +kernel
def mg_one : List Cond := [Cond.instantiable (mg_R 1) (mg_N 1), Cond.initialized (mg_R 1), Cond.instantiable (mg_R 2) (mg_N 2), Cond.initialized (mg_R 2), Cond.instantiable (mg_R 3) (mg_N 3), Cond.initialized (mg_R 3), Cond.instantiable (mg_R 4) (mg_N 4), Cond.initialized (mg_R 4), Cond.instantiable (mg_R 5) (mg_N 5), Cond.initialized (mg_R 5), Cond.instantiable (mg_R 6) (mg_N 6), Cond.initialized (mg_R 6), Cond.instantiable (mg_R 7) (mg_N 7), Cond.initialized (mg_R 7), Cond.initialized (mg_ex 1), Cond.initialized (mg_ex 2), Cond.initialized (mg_ex 3), Cond.initialized (mg_ex 4), Cond.initialized (mg_ex 5), Cond.initialized (mg_ex 6), Cond.arrayClass .int, Cond.arrayClass .long, Cond.arrayClass .double, Cond.static Lib.Math.max.name, Cond.static Lib.Math.min.name, Cond.initialized "java/lang/Math", Cond.code Lib.Math.max.name Lib.Math.max.code 2 (some .int), Cond.code Lib.Math.min.name Lib.Math.min.code 2 (some .int), Cond.native arraycopyName, Cond.static arraycopyName, Cond.initialized "java/lang/System", Cond.instanceMethod Lib.objectInit, Cond.code Lib.objectInit ⟨#[0xb1]⟩ 1 none]
theorem mg_onek : mg_one.map some = [247, 60, 282, 61, 98, 58, 91, 57, 85, 56, 77, 55, 1066, 62, 66, 69, 72, 73, 74, 75, 147, 1513, 1514, 576, 573, 71, 577, 574, 538, 537, 70, 82, 83].map (fun i => lw_tbl[i]?) ∧ mg_one.all goodWord = true := by decide +kernel
/-- an entry of decoded code: where, what is next, the instruction and its length, what it links -/
abbrev mg_E : Type := Nat × Nat × (Instr × Nat) × (Nat × Nat × Nat × Nat)
/-- a method's code: entries, cut points with what is live there, handlers with the exception's number, (what it answers, the code's class), targets of its switch -/
abbrev mg_C : Type := List mg_E × List (Nat × List Nat) × List (Nat × Nat × Nat × Nat) × (Nat × Nat) × List Nat
def mc_X2_init : mg_C := ([(0, 1, (.aload_n 0, 1), (0, 0, 0, 0)), (1, 4, (.invokespecial 1, 3), (0, 0, 0, 0)), (4, 5, (.return_, 1), (0, 0, 0, 0))], [], [], (0, 3), [])
def mc_X2_lie : mg_C := ([(0, 1, (.aload_n 0, 1), (0, 0, 0, 0)), (1, 2, (.iload_n 1, 1), (1, 0, 0, 0)), (2, 5, (.putfield 7, 3), (3, 0, 0, 0)), (5, 6, (.aload_n 0, 1), (0, 0, 0, 0)), (6, 7, (.iload_n 2, 1), (2, 0, 0, 0)), (7, 10, (.putfield 13, 3), (3, 1, 0, 0)), (10, 11, (.aload_n 0, 1), (0, 0, 0, 0)), (11, 12, (.iload_n 3, 1), (3, 0, 0, 0)), (12, 15, (.putfield 16, 3), (3, 2, 0, 0)), (15, 16, (.aload_n 0, 1), (0, 0, 0, 0)), (16, 18, (.iload 4, 2), (4, 0, 0, 0)), (18, 21, (.putfield 19, 3), (3, 3, 0, 0)), (21, 22, (.return_, 1), (0, 0, 0, 0))], [], [], (0, 3), [])
def mc_X2_fill : mg_C := ([(0, 1, (.aload_n 0, 1), (0, 0, 0, 0)), (1, 2, (.iload_n 1, 1), (1, 0, 0, 0)), (2, 5, (.putfield 22, 3), (3, 4, 0, 0)), (5, 6, (.aload_n 0, 1), (0, 0, 0, 0)), (6, 7, (.iload_n 2, 1), (2, 0, 0, 0)), (7, 10, (.putfield 25, 3), (3, 5, 0, 0)), (10, 11, (.return_, 1), (0, 0, 0, 0))], [], [], (0, 3), [])
def mc_X2_become : mg_C := ([(0, 1, (.aload_n 0, 1), (0, 0, 0, 0)), (1, 2, (.aload_n 1, 1), (1, 0, 0, 0)), (2, 5, (.getfield 7, 3), (3, 0, 0, 0)), (5, 6, (.aload_n 1, 1), (1, 0, 0, 0)), (6, 9, (.getfield 13, 3), (3, 1, 0, 0)), (9, 10, (.aload_n 1, 1), (1, 0, 0, 0)), (10, 13, (.getfield 16, 3), (3, 2, 0, 0)), (13, 14, (.aload_n 1, 1), (1, 0, 0, 0)), (14, 17, (.getfield 19, 3), (3, 3, 0, 0)), (17, 20, (.invokevirtual 28, 3), (2, 4, 0, 3)), (20, 21, (.aload_n 0, 1), (0, 0, 0, 0)), (21, 22, (.aload_n 1, 1), (1, 0, 0, 0)), (22, 25, (.getfield 22, 3), (3, 4, 0, 0)), (25, 26, (.aload_n 1, 1), (1, 0, 0, 0)), (26, 29, (.getfield 25, 3), (3, 5, 0, 0)), (29, 32, (.invokevirtual 32, 3), (3, 2, 0, 3)), (32, 33, (.return_, 1), (0, 0, 0, 0))], [], [], (0, 3), [])
def mc_X2_bottom : mg_C := ([(0, 1, (.aload_n 0, 1), (0, 0, 0, 0)), (1, 4, (.getfield 7, 3), (3, 0, 0, 0)), (4, 5, (.aload_n 0, 1), (0, 0, 0, 0)), (5, 8, (.getfield 16, 3), (3, 2, 0, 0)), (8, 9, (.iadd, 1), (0, 0, 0, 0)), (9, 10, (.iconst 1, 1), (0, 0, 0, 0)), (10, 11, (.isub, 1), (0, 0, 0, 0)), (11, 12, (.ireturn, 1), (0, 0, 0, 0))], [], [], (1, 3), [])
def mc_X2_right : mg_C := ([(0, 1, (.aload_n 0, 1), (0, 0, 0, 0)), (1, 4, (.getfield 13, 3), (3, 1, 0, 0)), (4, 5, (.aload_n 0, 1), (0, 0, 0, 0)), (5, 8, (.getfield 19, 3), (3, 3, 0, 0)), (8, 9, (.iadd, 1), (0, 0, 0, 0)), (9, 10, (.iconst 1, 1), (0, 0, 0, 0)), (10, 11, (.isub, 1), (0, 0, 0, 0)), (11, 12, (.ireturn, 1), (0, 0, 0, 0))], [], [], (1, 3), [])
def mc_X2_isWithin : mg_C := ([(0, 1, (.aload_n 0, 1), (0, 0, 0, 0)), (1, 4, (.getfield 7, 3), (3, 0, 0, 0)), (4, 5, (.aload_n 1, 1), (1, 0, 0, 0)), (5, 8, (.getfield 36, 3), (1, 0, 0, 0)), (8, 11, (.if_icmp .lt 40, 3), (48, 0, 0, 0)), (11, 12, (.aload_n 0, 1), (0, 0, 0, 0)), (12, 15, (.invokevirtual 39, 3), (5, 0, 0, 3)), (15, 16, (.aload_n 1, 1), (1, 0, 0, 0)), (16, 19, (.getfield 43, 3), (1, 2, 0, 0)), (19, 22, (.if_icmp .gt 29, 3), (48, 0, 0, 0)), (22, 23, (.aload_n 0, 1), (0, 0, 0, 0)), (23, 26, (.getfield 13, 3), (3, 1, 0, 0)), (26, 27, (.aload_n 1, 1), (1, 0, 0, 0)), (27, 30, (.getfield 45, 3), (1, 1, 0, 0)), (30, 33, (.if_icmp .lt 18, 3), (48, 0, 0, 0)), (33, 34, (.aload_n 0, 1), (0, 0, 0, 0)), (34, 37, (.invokevirtual 46, 3), (6, 0, 0, 3)), (37, 38, (.aload_n 1, 1), (1, 0, 0, 0)), (38, 41, (.getfield 49, 3), (1, 3, 0, 0)), (41, 44, (.if_icmp .gt 7, 3), (48, 0, 0, 0)), (44, 45, (.iconst 1, 1), (0, 0, 0, 0)), (45, 48, (.goto 4, 3), (49, 0, 0, 0)), (48, 49, (.iconst 0, 1), (0, 0, 0, 0)), (49, 50, (.ireturn, 1), (0, 0, 0, 0))], [], [], (2, 3), [])
def mc_X2_meets : mg_C := ([(0, 1, (.aload_n 0, 1), (0, 0, 0, 0)), (1, 4, (.getfield 7, 3), (3, 0, 0, 0)), (4, 5, (.aload_n 1, 1), (1, 0, 0, 0)), (5, 8, (.getfield 43, 3), (1, 2, 0, 0)), (8, 11, (.if_icmp .gt 40, 3), (48, 0, 0, 0)), (11, 12, (.aload_n 0, 1), (0, 0, 0, 0)), (12, 15, (.invokevirtual 39, 3), (5, 0, 0, 3)), (15, 16, (.aload_n 1, 1), (1, 0, 0, 0)), (16, 19, (.getfield 36, 3), (1, 0, 0, 0)), (19, 22, (.if_icmp .lt 29, 3), (48, 0, 0, 0)), (22, 23, (.aload_n 0, 1), (0, 0, 0, 0)), (23, 26, (.getfield 13, 3), (3, 1, 0, 0)), (26, 27, (.aload_n 1, 1), (1, 0, 0, 0)), (27, 30, (.getfield 49, 3), (1, 3, 0, 0)), (30, 33, (.if_icmp .gt 18, 3), (48, 0, 0, 0)), (33, 34, (.aload_n 0, 1), (0, 0, 0, 0)), (34, 37, (.invokevirtual 46, 3), (6, 0, 0, 3)), (37, 38, (.aload_n 1, 1), (1, 0, 0, 0)), (38, 41, (.getfield 45, 3), (1, 1, 0, 0)), (41, 44, (.if_icmp .lt 7, 3), (48, 0, 0, 0)), (44, 45, (.iconst 1, 1), (0, 0, 0, 0)), (45, 48, (.goto 4, 3), (49, 0, 0, 0)), (48, 49, (.iconst 0, 1), (0, 0, 0, 0)), (49, 50, (.ireturn, 1), (0, 0, 0, 0))], [], [], (2, 3), [])
def mc_X2_isAcross : mg_C := ([(0, 1, (.aload_n 0, 1), (0, 0, 0, 0)), (1, 4, (.getfield 7, 3), (3, 0, 0, 0)), (4, 5, (.iload_n 1, 1), (1, 0, 0, 0)), (5, 8, (.if_icmp .ge 15, 3), (20, 0, 0, 0)), (8, 9, (.aload_n 0, 1), (0, 0, 0, 0)), (9, 12, (.invokevirtual 39, 3), (5, 0, 0, 3)), (12, 13, (.iload_n 1, 1), (1, 0, 0, 0)), (13, 16, (.if_icmp .lt 7, 3), (20, 0, 0, 0)), (16, 17, (.iconst 1, 1), (0, 0, 0, 0)), (17, 20, (.goto 4, 3), (21, 0, 0, 0)), (20, 21, (.iconst 0, 1), (0, 0, 0, 0)), (21, 22, (.ireturn, 1), (0, 0, 0, 0))], [], [], (2, 3), [])
def mc_X2_makeRoomForRow : mg_C := ([(0, 1, (.aload_n 0, 1), (0, 0, 0, 0)), (1, 4, (.getfield 7, 3), (3, 0, 0, 0)), (4, 5, (.iload_n 1, 1), (1, 0, 0, 0)), (5, 8, (.if_icmp .lt 16, 3), (21, 0, 0, 0)), (8, 9, (.aload_n 0, 1), (0, 0, 0, 0)), (9, 10, (.dup, 1), (0, 0, 0, 0)), (10, 13, (.getfield 7, 3), (3, 0, 0, 0)), (13, 14, (.iconst 1, 1), (0, 0, 0, 0)), (14, 15, (.iadd, 1), (0, 0, 0, 0)), (15, 18, (.putfield 7, 3), (3, 0, 0, 0)), (18, 21, (.goto 21, 3), (39, 0, 0, 0)), (21, 22, (.aload_n 0, 1), (0, 0, 0, 0)), (22, 25, (.invokevirtual 39, 3), (5, 0, 0, 3)), (25, 26, (.iload_n 1, 1), (1, 0, 0, 0)), (26, 29, (.if_icmp .lt 13, 3), (39, 0, 0, 0)), (29, 30, (.aload_n 0, 1), (0, 0, 0, 0)), (30, 31, (.dup, 1), (0, 0, 0, 0)), (31, 34, (.getfield 16, 3), (3, 2, 0, 0)), (34, 35, (.iconst 1, 1), (0, 0, 0, 0)), (35, 36, (.iadd, 1), (0, 0, 0, 0)), (36, 39, (.putfield 16, 3), (3, 2, 0, 0)), (39, 40, (.return_, 1), (0, 0, 0, 0))], [], [], (0, 3), [])
def mc_X2_makeRoomForColumn : mg_C := ([(0, 1, (.aload_n 0, 1), (0, 0, 0, 0)), (1, 4, (.getfield 13, 3), (3, 1, 0, 0)), (4, 5, (.iload_n 1, 1), (1, 0, 0, 0)), (5, 8, (.if_icmp .lt 16, 3), (21, 0, 0, 0)), (8, 9, (.aload_n 0, 1), (0, 0, 0, 0)), (9, 10, (.dup, 1), (0, 0, 0, 0)), (10, 13, (.getfield 13, 3), (3, 1, 0, 0)), (13, 14, (.iconst 1, 1), (0, 0, 0, 0)), (14, 15, (.iadd, 1), (0, 0, 0, 0)), (15, 18, (.putfield 13, 3), (3, 1, 0, 0)), (18, 21, (.goto 21, 3), (39, 0, 0, 0)), (21, 22, (.aload_n 0, 1), (0, 0, 0, 0)), (22, 25, (.invokevirtual 46, 3), (6, 0, 0, 3)), (25, 26, (.iload_n 1, 1), (1, 0, 0, 0)), (26, 29, (.if_icmp .lt 13, 3), (39, 0, 0, 0)), (29, 30, (.aload_n 0, 1), (0, 0, 0, 0)), (30, 31, (.dup, 1), (0, 0, 0, 0)), (31, 34, (.getfield 19, 3), (3, 3, 0, 0)), (34, 35, (.iconst 1, 1), (0, 0, 0, 0)), (35, 36, (.iadd, 1), (0, 0, 0, 0)), (36, 39, (.putfield 19, 3), (3, 3, 0, 0)), (39, 40, (.return_, 1), (0, 0, 0, 0))], [], [], (0, 3), [])
def mc_X2_loseRow : mg_C := ([(0, 1, (.aload_n 0, 1), (0, 0, 0, 0)), (1, 4, (.getfield 7, 3), (3, 0, 0, 0)), (4, 5, (.iload_n 1, 1), (1, 0, 0, 0)), (5, 8, (.if_icmp .le 16, 3), (21, 0, 0, 0)), (8, 9, (.aload_n 0, 1), (0, 0, 0, 0)), (9, 10, (.dup, 1), (0, 0, 0, 0)), (10, 13, (.getfield 7, 3), (3, 0, 0, 0)), (13, 14, (.iconst 1, 1), (0, 0, 0, 0)), (14, 15, (.isub, 1), (0, 0, 0, 0)), (15, 18, (.putfield 7, 3), (3, 0, 0, 0)), (18, 21, (.goto 21, 3), (39, 0, 0, 0)), (21, 22, (.aload_n 0, 1), (0, 0, 0, 0)), (22, 25, (.invokevirtual 39, 3), (5, 0, 0, 3)), (25, 26, (.iload_n 1, 1), (1, 0, 0, 0)), (26, 29, (.if_icmp .lt 13, 3), (39, 0, 0, 0)), (29, 30, (.aload_n 0, 1), (0, 0, 0, 0)), (30, 31, (.dup, 1), (0, 0, 0, 0)), (31, 34, (.getfield 16, 3), (3, 2, 0, 0)), (34, 35, (.iconst 1, 1), (0, 0, 0, 0)), (35, 36, (.isub, 1), (0, 0, 0, 0)), (36, 39, (.putfield 16, 3), (3, 2, 0, 0)), (39, 40, (.return_, 1), (0, 0, 0, 0))], [], [], (0, 3), [])
def mc_X2_loseColumn : mg_C := ([(0, 1, (.aload_n 0, 1), (0, 0, 0, 0)), (1, 4, (.getfield 13, 3), (3, 1, 0, 0)), (4, 5, (.iload_n 1, 1), (1, 0, 0, 0)), (5, 8, (.if_icmp .le 16, 3), (21, 0, 0, 0)), (8, 9, (.aload_n 0, 1), (0, 0, 0, 0)), (9, 10, (.dup, 1), (0, 0, 0, 0)), (10, 13, (.getfield 13, 3), (3, 1, 0, 0)), (13, 14, (.iconst 1, 1), (0, 0, 0, 0)), (14, 15, (.isub, 1), (0, 0, 0, 0)), (15, 18, (.putfield 13, 3), (3, 1, 0, 0)), (18, 21, (.goto 21, 3), (39, 0, 0, 0)), (21, 22, (.aload_n 0, 1), (0, 0, 0, 0)), (22, 25, (.invokevirtual 46, 3), (6, 0, 0, 3)), (25, 26, (.iload_n 1, 1), (1, 0, 0, 0)), (26, 29, (.if_icmp .lt 13, 3), (39, 0, 0, 0)), (29, 30, (.aload_n 0, 1), (0, 0, 0, 0)), (30, 31, (.dup, 1), (0, 0, 0, 0)), (31, 34, (.getfield 19, 3), (3, 3, 0, 0)), (34, 35, (.iconst 1, 1), (0, 0, 0, 0)), (35, 36, (.isub, 1), (0, 0, 0, 0)), (36, 39, (.putfield 19, 3), (3, 3, 0, 0)), (39, 40, (.return_, 1), (0, 0, 0, 0))], [], [], (0, 3), [])
def mc_X0_init : mg_C := ([(0, 1, (.aload_n 0, 1), (0, 0, 0, 0)), (1, 4, (.invokespecial 1, 3), (0, 0, 0, 0)), (4, 5, (.return_, 1), (0, 0, 0, 0))], [], [], (0, 1), [])
def mc_X0_span : mg_C := ([(0, 1, (.aload_n 0, 1), (0, 0, 0, 0)), (1, 2, (.iload_n 1, 1), (1, 0, 0, 0)), (2, 3, (.iload_n 3, 1), (3, 0, 0, 0)), (3, 6, (.invokestatic 7, 3), (1001, 0, 0, 0)), (6, 9, (.putfield 13, 3), (1, 0, 0, 0)), (9, 10, (.aload_n 0, 1), (0, 0, 0, 0)), (10, 11, (.iload_n 2, 1), (2, 0, 0, 0)), (11, 13, (.iload 4, 2), (4, 0, 0, 0)), (13, 16, (.invokestatic 7, 3), (1001, 0, 0, 0)), (16, 19, (.putfield 19, 3), (1, 1, 0, 0)), (19, 20, (.aload_n 0, 1), (0, 0, 0, 0)), (20, 21, (.iload_n 1, 1), (1, 0, 0, 0)), (21, 22, (.iload_n 3, 1), (3, 0, 0, 0)), (22, 25, (.invokestatic 22, 3), (1000, 0, 0, 0)), (25, 28, (.putfield 25, 3), (1, 2, 0, 0)), (28, 29, (.aload_n 0, 1), (0, 0, 0, 0)), (29, 30, (.iload_n 2, 1), (2, 0, 0, 0)), (30, 32, (.iload 4, 2), (4, 0, 0, 0)), (32, 35, (.invokestatic 22, 3), (1000, 0, 0, 0)), (35, 38, (.putfield 28, 3), (1, 3, 0, 0)), (38, 39, (.return_, 1), (0, 0, 0, 0))], [], [], (0, 1), [])
def mc_X0_squares : mg_C := ([(0, 1, (.aload_n 0, 1), (0, 0, 0, 0)), (1, 4, (.getfield 25, 3), (1, 2, 0, 0)), (4, 5, (.aload_n 0, 1), (0, 0, 0, 0)), (5, 8, (.getfield 13, 3), (1, 0, 0, 0)), (8, 9, (.isub, 1), (0, 0, 0, 0)), (9, 10, (.iconst 1, 1), (0, 0, 0, 0)), (10, 11, (.iadd, 1), (0, 0, 0, 0)), (11, 12, (.aload_n 0, 1), (0, 0, 0, 0)), (12, 15, (.getfield 28, 3), (1, 3, 0, 0)), (15, 16, (.aload_n 0, 1), (0, 0, 0, 0)), (16, 19, (.getfield 19, 3), (1, 1, 0, 0)), (19, 20, (.isub, 1), (0, 0, 0, 0)), (20, 21, (.iconst 1, 1), (0, 0, 0, 0)), (21, 22, (.iadd, 1), (0, 0, 0, 0)), (22, 23, (.imul, 1), (0, 0, 0, 0)), (23, 24, (.ireturn, 1), (0, 0, 0, 0))], [], [], (1, 1), [])
def mc_X0_takeIn : mg_C := ([(0, 1, (.aload_n 0, 1), (0, 0, 0, 0)), (1, 2, (.aload_n 0, 1), (0, 0, 0, 0)), (2, 5, (.getfield 13, 3), (1, 0, 0, 0)), (5, 6, (.aload_n 1, 1), (1, 0, 0, 0)), (6, 9, (.getfield 31, 3), (3, 0, 0, 0)), (9, 12, (.invokestatic 7, 3), (1001, 0, 0, 0)), (12, 15, (.putfield 13, 3), (1, 0, 0, 0)), (15, 16, (.aload_n 0, 1), (0, 0, 0, 0)), (16, 17, (.aload_n 0, 1), (0, 0, 0, 0)), (17, 20, (.getfield 19, 3), (1, 1, 0, 0)), (20, 21, (.aload_n 1, 1), (1, 0, 0, 0)), (21, 24, (.getfield 34, 3), (3, 1, 0, 0)), (24, 27, (.invokestatic 7, 3), (1001, 0, 0, 0)), (27, 30, (.putfield 19, 3), (1, 1, 0, 0)), (30, 31, (.aload_n 0, 1), (0, 0, 0, 0)), (31, 32, (.aload_n 0, 1), (0, 0, 0, 0)), (32, 35, (.getfield 25, 3), (1, 2, 0, 0)), (35, 36, (.aload_n 1, 1), (1, 0, 0, 0)), (36, 39, (.invokevirtual 35, 3), (5, 0, 0, 3)), (39, 42, (.invokestatic 22, 3), (1000, 0, 0, 0)), (42, 45, (.putfield 25, 3), (1, 2, 0, 0)), (45, 46, (.aload_n 0, 1), (0, 0, 0, 0)), (46, 47, (.aload_n 0, 1), (0, 0, 0, 0)), (47, 50, (.getfield 28, 3), (1, 3, 0, 0)), (50, 51, (.aload_n 1, 1), (1, 0, 0, 0)), (51, 54, (.invokevirtual 38, 3), (6, 0, 0, 3)), (54, 57, (.invokestatic 22, 3), (1000, 0, 0, 0)), (57, 60, (.putfield 28, 3), (1, 3, 0, 0)), (60, 61, (.return_, 1), (0, 0, 0, 0))], [], [], (0, 1), [])
def mc_X3_init : mg_C := ([(0, 1, (.aload_n 0, 1), (0, 0, 0, 0)), (1, 4, (.invokespecial 3, 3), (0, 0, 0, 0)), (4, 5, (.aload_n 0, 1), (0, 0, 0, 0)), (5, 7, (.bipush 120, 2), (0, 0, 0, 0)), (7, 10, (.anewarray 9, 3), (9, 0, 0, 0)), (10, 13, (.putfield 11, 3), (4, 1, 1, 1)), (13, 14, (.aload_n 0, 1), (0, 0, 0, 0)), (14, 17, (.new 9, 3), (3, 0, 0, 0)), (17, 18, (.dup, 1), (0, 0, 0, 0)), (18, 21, (.invokespecial 17, 3), (1, 0, 0, 1)), (21, 24, (.putfield 18, 3), (4, 2, 1, 1)), (24, 25, (.iconst 0, 1), (0, 0, 0, 0)), (25, 26, (.istore_n 1, 1), (1, 0, 0, 0)), (26, 27, (.iload_n 1, 1), (1, 0, 0, 0)), (27, 28, (.aload_n 0, 1), (0, 0, 0, 0)), (28, 31, (.getfield 11, 3), (4, 1, 1, 0)), (31, 32, (.arraylength, 1), (9, 0, 0, 0)), (32, 35, (.if_icmp .ge 22, 3), (54, 0, 0, 0)), (35, 36, (.aload_n 0, 1), (0, 0, 0, 0)), (36, 39, (.getfield 11, 3), (4, 1, 1, 0)), (39, 40, (.iload_n 1, 1), (1, 0, 0, 0)), (40, 43, (.new 9, 3), (3, 0, 0, 0)), (43, 44, (.dup, 1), (0, 0, 0, 0)), (44, 47, (.invokespecial 17, 3), (1, 0, 0, 1)), (47, 48, (.aastore, 1), (0, 0, 0, 0)), (48, 51, (.iinc 1 1, 3), (1, 0, 0, 0)), (51, 54, (.goto (-25), 3), (26, 0, 0, 0)), (54, 55, (.return_, 1), (0, 0, 0, 0))], [(26, [0, 1])], [], (0, 4), [])
def mc_X3_get : mg_C := ([(0, 1, (.iload_n 1, 1), (1, 0, 0, 0)), (1, 4, (.ifCond .lt 20, 3), (21, 0, 0, 0)), (4, 5, (.iload_n 1, 1), (1, 0, 0, 0)), (5, 6, (.aload_n 0, 1), (0, 0, 0, 0)), (6, 9, (.getfield 22, 3), (4, 0, 0, 0)), (9, 12, (.if_icmp .ge 12, 3), (21, 0, 0, 0)), (12, 13, (.aload_n 0, 1), (0, 0, 0, 0)), (13, 16, (.getfield 11, 3), (4, 1, 1, 0)), (16, 17, (.iload_n 1, 1), (1, 0, 0, 0)), (17, 18, (.aaload, 1), (0, 0, 0, 0)), (18, 21, (.goto 7, 3), (25, 0, 0, 0)), (21, 22, (.aload_n 0, 1), (0, 0, 0, 0)), (22, 25, (.getfield 18, 3), (4, 2, 1, 0)), (25, 26, (.areturn, 1), (0, 0, 0, 0))], [], [], (3, 4), [])
def mc_X3_add : mg_C := ([(0, 1, (.aload_n 0, 1), (0, 0, 0, 0)), (1, 4, (.getfield 22, 3), (4, 0, 0, 0)), (4, 5, (.aload_n 0, 1), (0, 0, 0, 0)), (5, 8, (.getfield 11, 3), (4, 1, 1, 0)), (8, 9, (.arraylength, 1), (9, 0, 0, 0)), (9, 12, (.if_icmp .lt 8, 3), (17, 0, 0, 0)), (12, 13, (.aload_n 0, 1), (0, 0, 0, 0)), (13, 16, (.getfield 18, 3), (4, 2, 1, 0)), (16, 17, (.areturn, 1), (0, 0, 0, 0)), (17, 18, (.aload_n 0, 1), (0, 0, 0, 0)), (18, 21, (.getfield 11, 3), (4, 1, 1, 0)), (21, 22, (.aload_n 0, 1), (0, 0, 0, 0)), (22, 25, (.getfield 22, 3), (4, 0, 0, 0)), (25, 26, (.aaload, 1), (0, 0, 0, 0)), (26, 28, (.astore 5, 2), (5, 0, 0, 0)), (28, 29, (.aload_n 0, 1), (0, 0, 0, 0)), (29, 30, (.dup, 1), (0, 0, 0, 0)), (30, 33, (.getfield 22, 3), (4, 0, 0, 0)), (33, 34, (.iconst 1, 1), (0, 0, 0, 0)), (34, 35, (.iadd, 1), (0, 0, 0, 0)), (35, 38, (.putfield 22, 3), (4, 0, 0, 0)), (38, 40, (.aload 5, 2), (5, 0, 0, 0)), (40, 41, (.iload_n 1, 1), (1, 0, 0, 0)), (41, 42, (.iload_n 2, 1), (2, 0, 0, 0)), (42, 43, (.iload_n 3, 1), (3, 0, 0, 0)), (43, 45, (.iload 4, 2), (4, 0, 0, 0)), (45, 48, (.invokevirtual 26, 3), (2, 4, 0, 3)), (48, 50, (.aload 5, 2), (5, 0, 0, 0)), (50, 51, (.iconst 0, 1), (0, 0, 0, 0)), (51, 52, (.iconst 0, 1), (0, 0, 0, 0)), (52, 55, (.invokevirtual 30, 3), (3, 2, 0, 3)), (55, 57, (.aload 5, 2), (5, 0, 0, 0)), (57, 58, (.areturn, 1), (0, 0, 0, 0))], [], [], (3, 4), [])
def mc_X3_remove : mg_C := ([(0, 1, (.iload_n 1, 1), (1, 0, 0, 0)), (1, 4, (.ifCond .lt 53, 3), (54, 0, 0, 0)), (4, 5, (.iload_n 1, 1), (1, 0, 0, 0)), (5, 6, (.aload_n 0, 1), (0, 0, 0, 0)), (6, 9, (.getfield 22, 3), (4, 0, 0, 0)), (9, 12, (.if_icmp .ge 45, 3), (54, 0, 0, 0)), (12, 13, (.aload_n 0, 1), (0, 0, 0, 0)), (13, 16, (.getfield 11, 3), (4, 1, 1, 0)), (16, 17, (.iload_n 1, 1), (1, 0, 0, 0)), (17, 18, (.aaload, 1), (0, 0, 0, 0)), (18, 19, (.astore_n 2, 1), (2, 0, 0, 0)), (19, 20, (.aload_n 0, 1), (0, 0, 0, 0)), (20, 21, (.dup, 1), (0, 0, 0, 0)), (21, 24, (.getfield 22, 3), (4, 0, 0, 0)), (24, 25, (.iconst 1, 1), (0, 0, 0, 0)), (25, 26, (.isub, 1), (0, 0, 0, 0)), (26, 29, (.putfield 22, 3), (4, 0, 0, 0)), (29, 30, (.aload_n 0, 1), (0, 0, 0, 0)), (30, 33, (.getfield 11, 3), (4, 1, 1, 0)), (33, 34, (.iload_n 1, 1), (1, 0, 0, 0)), (34, 35, (.aload_n 0, 1), (0, 0, 0, 0)), (35, 38, (.getfield 11, 3), (4, 1, 1, 0)), (38, 39, (.aload_n 0, 1), (0, 0, 0, 0)), (39, 42, (.getfield 22, 3), (4, 0, 0, 0)), (42, 43, (.aaload, 1), (0, 0, 0, 0)), (43, 44, (.aastore, 1), (0, 0, 0, 0)), (44, 45, (.aload_n 0, 1), (0, 0, 0, 0)), (45, 48, (.getfield 11, 3), (4, 1, 1, 0)), (48, 49, (.aload_n 0, 1), (0, 0, 0, 0)), (49, 52, (.getfield 22, 3), (4, 0, 0, 0)), (52, 53, (.aload_n 2, 1), (2, 0, 0, 0)), (53, 54, (.aastore, 1), (0, 0, 0, 0)), (54, 55, (.return_, 1), (0, 0, 0, 0))], [], [], (0, 4), [])
def mc_X3_removeIn : mg_C := ([(0, 1, (.aload_n 0, 1), (0, 0, 0, 0)), (1, 4, (.getfield 22, 3), (4, 0, 0, 0)), (4, 5, (.iconst 1, 1), (0, 0, 0, 0)), (5, 6, (.isub, 1), (0, 0, 0, 0)), (6, 7, (.istore_n 2, 1), (2, 0, 0, 0)), (7, 8, (.iload_n 2, 1), (2, 0, 0, 0)), (8, 11, (.ifCond .lt 26, 3), (34, 0, 0, 0)), (11, 12, (.aload_n 0, 1), (0, 0, 0, 0)), (12, 13, (.iload_n 2, 1), (2, 0, 0, 0)), (13, 16, (.invokevirtual 34, 3), (19, 1, 0, 4)), (16, 17, (.aload_n 1, 1), (1, 0, 0, 0)), (17, 20, (.invokevirtual 38, 3), (7, 1, 0, 3)), (20, 23, (.ifCond .eq 8, 3), (28, 0, 0, 0)), (23, 24, (.aload_n 0, 1), (0, 0, 0, 0)), (24, 25, (.iload_n 2, 1), (2, 0, 0, 0)), (25, 28, (.invokevirtual 42, 3), (21, 1, 0, 4)), (28, 31, (.iinc 2 (-1), 3), (2, 0, 0, 0)), (31, 34, (.goto (-24), 3), (7, 0, 0, 0)), (34, 35, (.return_, 1), (0, 0, 0, 0))], [(7, [0, 1, 2])], [], (0, 4), [])
def mc_X3_removeVanished : mg_C := ([(0, 1, (.aload_n 0, 1), (0, 0, 0, 0)), (1, 4, (.getfield 22, 3), (4, 0, 0, 0)), (4, 5, (.iconst 1, 1), (0, 0, 0, 0)), (5, 6, (.isub, 1), (0, 0, 0, 0)), (6, 7, (.istore_n 1, 1), (1, 0, 0, 0)), (7, 8, (.iload_n 1, 1), (1, 0, 0, 0)), (8, 11, (.ifCond .lt 36, 3), (44, 0, 0, 0)), (11, 12, (.aload_n 0, 1), (0, 0, 0, 0)), (12, 13, (.iload_n 1, 1), (1, 0, 0, 0)), (13, 16, (.invokevirtual 34, 3), (19, 1, 0, 4)), (16, 19, (.getfield 46, 3), (3, 2, 0, 0)), (19, 22, (.ifCond .eq 14, 3), (33, 0, 0, 0)), (22, 23, (.aload_n 0, 1), (0, 0, 0, 0)), (23, 24, (.iload_n 1, 1), (1, 0, 0, 0)), (24, 27, (.invokevirtual 34, 3), (19, 1, 0, 4)), (27, 30, (.getfield 49, 3), (3, 3, 0, 0)), (30, 33, (.ifCond .ne 8, 3), (38, 0, 0, 0)), (33, 34, (.aload_n 0, 1), (0, 0, 0, 0)), (34, 35, (.iload_n 1, 1), (1, 0, 0, 0)), (35, 38, (.invokevirtual 42, 3), (21, 1, 0, 4)), (38, 41, (.iinc 1 (-1), 3), (1, 0, 0, 0)), (41, 44, (.goto (-34), 3), (7, 0, 0, 0)), (44, 45, (.return_, 1), (0, 0, 0, 0))], [(7, [0, 1])], [], (0, 4), [])
def mc_X3_become : mg_C := ([(0, 1, (.aload_n 0, 1), (0, 0, 0, 0)), (1, 2, (.aload_n 1, 1), (1, 0, 0, 0)), (2, 5, (.getfield 22, 3), (4, 0, 0, 0)), (5, 8, (.putfield 22, 3), (4, 0, 0, 0)), (8, 9, (.iconst 0, 1), (0, 0, 0, 0)), (9, 10, (.istore_n 2, 1), (2, 0, 0, 0)), (10, 11, (.iload_n 2, 1), (2, 0, 0, 0)), (11, 12, (.aload_n 0, 1), (0, 0, 0, 0)), (12, 15, (.getfield 22, 3), (4, 0, 0, 0)), (15, 18, (.if_icmp .ge 22, 3), (37, 0, 0, 0)), (18, 19, (.aload_n 0, 1), (0, 0, 0, 0)), (19, 20, (.iload_n 2, 1), (2, 0, 0, 0)), (20, 23, (.invokevirtual 34, 3), (19, 1, 0, 4)), (23, 24, (.aload_n 1, 1), (1, 0, 0, 0)), (24, 25, (.iload_n 2, 1), (2, 0, 0, 0)), (25, 28, (.invokevirtual 34, 3), (19, 1, 0, 4)), (28, 31, (.invokevirtual 52, 3), (4, 1, 0, 3)), (31, 34, (.iinc 2 1, 3), (2, 0, 0, 0)), (34, 37, (.goto (-24), 3), (10, 0, 0, 0)), (37, 38, (.return_, 1), (0, 0, 0, 0))], [(10, [0, 1, 2])], [], (0, 4), [])
def mc_X3_countIn : mg_C := ([(0, 1, (.iconst 0, 1), (0, 0, 0, 0)), (1, 2, (.istore_n 2, 1), (2, 0, 0, 0)), (2, 3, (.iconst 0, 1), (0, 0, 0, 0)), (3, 4, (.istore_n 3, 1), (3, 0, 0, 0)), (4, 5, (.iload_n 3, 1), (3, 0, 0, 0)), (5, 6, (.aload_n 0, 1), (0, 0, 0, 0)), (6, 9, (.getfield 22, 3), (4, 0, 0, 0)), (9, 12, (.if_icmp .ge 24, 3), (33, 0, 0, 0)), (12, 13, (.aload_n 0, 1), (0, 0, 0, 0)), (13, 14, (.iload_n 3, 1), (3, 0, 0, 0)), (14, 17, (.invokevirtual 34, 3), (19, 1, 0, 4)), (17, 18, (.aload_n 1, 1), (1, 0, 0, 0)), (18, 21, (.invokevirtual 38, 3), (7, 1, 0, 3)), (21, 24, (.ifCond .eq 6, 3), (27, 0, 0, 0)), (24, 27, (.iinc 2 1, 3), (2, 0, 0, 0)), (27, 30, (.iinc 3 1, 3), (3, 0, 0, 0)), (30, 33, (.goto (-26), 3), (4, 0, 0, 0)), (33, 34, (.iload_n 2, 1), (2, 0, 0, 0)), (34, 35, (.ireturn, 1), (0, 0, 0, 0))], [(4, [0, 1, 2, 3])], [], (1, 4), [])
def mc_X3_filledIn : mg_C := ([(0, 1, (.iconst 0, 1), (0, 0, 0, 0)), (1, 2, (.istore_n 2, 1), (2, 0, 0, 0)), (2, 3, (.iconst 0, 1), (0, 0, 0, 0)), (3, 4, (.istore_n 3, 1), (3, 0, 0, 0)), (4, 5, (.iload_n 3, 1), (3, 0, 0, 0)), (5, 6, (.aload_n 0, 1), (0, 0, 0, 0)), (6, 9, (.getfield 22, 3), (4, 0, 0, 0)), (9, 12, (.if_icmp .ge 35, 3), (44, 0, 0, 0)), (12, 13, (.aload_n 0, 1), (0, 0, 0, 0)), (13, 14, (.iload_n 3, 1), (3, 0, 0, 0)), (14, 17, (.invokevirtual 34, 3), (19, 1, 0, 4)), (17, 18, (.aload_n 1, 1), (1, 0, 0, 0)), (18, 21, (.invokevirtual 38, 3), (7, 1, 0, 3)), (21, 24, (.ifCond .eq 17, 3), (38, 0, 0, 0)), (24, 25, (.aload_n 0, 1), (0, 0, 0, 0)), (25, 26, (.iload_n 3, 1), (3, 0, 0, 0)), (26, 29, (.invokevirtual 34, 3), (19, 1, 0, 4)), (29, 32, (.getfield 56, 3), (3, 4, 0, 0)), (32, 35, (.ifCond .eq 6, 3), (38, 0, 0, 0)), (35, 38, (.iinc 2 1, 3), (2, 0, 0, 0)), (38, 41, (.iinc 3 1, 3), (3, 0, 0, 0)), (41, 44, (.goto (-37), 3), (4, 0, 0, 0)), (44, 45, (.iload_n 2, 1), (2, 0, 0, 0)), (45, 46, (.ireturn, 1), (0, 0, 0, 0))], [(4, [0, 1, 2, 3])], [], (1, 4), [])
def mc_X3_sumIn : mg_C := ([(0, 1, (.iconst 0, 1), (0, 0, 0, 0)), (1, 2, (.istore_n 2, 1), (2, 0, 0, 0)), (2, 3, (.iconst 0, 1), (0, 0, 0, 0)), (3, 4, (.istore_n 3, 1), (3, 0, 0, 0)), (4, 5, (.iload_n 3, 1), (3, 0, 0, 0)), (5, 6, (.aload_n 0, 1), (0, 0, 0, 0)), (6, 9, (.getfield 22, 3), (4, 0, 0, 0)), (9, 12, (.if_icmp .ge 32, 3), (41, 0, 0, 0)), (12, 13, (.aload_n 0, 1), (0, 0, 0, 0)), (13, 14, (.iload_n 3, 1), (3, 0, 0, 0)), (14, 17, (.invokevirtual 34, 3), (19, 1, 0, 4)), (17, 18, (.aload_n 1, 1), (1, 0, 0, 0)), (18, 21, (.invokevirtual 38, 3), (7, 1, 0, 3)), (21, 24, (.ifCond .eq 14, 3), (35, 0, 0, 0)), (24, 25, (.iload_n 2, 1), (2, 0, 0, 0)), (25, 26, (.aload_n 0, 1), (0, 0, 0, 0)), (26, 27, (.iload_n 3, 1), (3, 0, 0, 0)), (27, 30, (.invokevirtual 34, 3), (19, 1, 0, 4)), (30, 33, (.getfield 56, 3), (3, 4, 0, 0)), (33, 34, (.iadd, 1), (0, 0, 0, 0)), (34, 35, (.istore_n 2, 1), (2, 0, 0, 0)), (35, 38, (.iinc 3 1, 3), (3, 0, 0, 0)), (38, 41, (.goto (-34), 3), (4, 0, 0, 0)), (41, 42, (.iload_n 2, 1), (2, 0, 0, 0)), (42, 43, (.ireturn, 1), (0, 0, 0, 0))], [(4, [0, 1, 2, 3])], [], (1, 4), [])
def mc_X3_emptyIn : mg_C := ([(0, 1, (.iconst 0, 1), (0, 0, 0, 0)), (1, 2, (.istore_n 2, 1), (2, 0, 0, 0)), (2, 3, (.iload_n 2, 1), (2, 0, 0, 0)), (3, 4, (.aload_n 0, 1), (0, 0, 0, 0)), (4, 7, (.getfield 22, 3), (4, 0, 0, 0)), (7, 10, (.if_icmp .ge 30, 3), (37, 0, 0, 0)), (10, 11, (.aload_n 0, 1), (0, 0, 0, 0)), (11, 12, (.iload_n 2, 1), (2, 0, 0, 0)), (12, 15, (.invokevirtual 34, 3), (19, 1, 0, 4)), (15, 16, (.aload_n 1, 1), (1, 0, 0, 0)), (16, 19, (.invokevirtual 38, 3), (7, 1, 0, 3)), (19, 22, (.ifCond .eq 12, 3), (31, 0, 0, 0)), (22, 23, (.aload_n 0, 1), (0, 0, 0, 0)), (23, 24, (.iload_n 2, 1), (2, 0, 0, 0)), (24, 27, (.invokevirtual 34, 3), (19, 1, 0, 4)), (27, 28, (.iconst 0, 1), (0, 0, 0, 0)), (28, 31, (.putfield 56, 3), (3, 4, 0, 0)), (31, 34, (.iinc 2 1, 3), (2, 0, 0, 0)), (34, 37, (.goto (-32), 3), (2, 0, 0, 0)), (37, 38, (.return_, 1), (0, 0, 0, 0))], [(2, [0, 1, 2])], [], (0, 4), [])
def mc_X3_paint : mg_C := ([(0, 1, (.iconst 0, 1), (0, 0, 0, 0)), (1, 2, (.istore_n 3, 1), (3, 0, 0, 0)), (2, 3, (.iconst 0, 1), (0, 0, 0, 0)), (3, 5, (.istore 4, 2), (4, 0, 0, 0)), (5, 7, (.iload 4, 2), (4, 0, 0, 0)), (7, 8, (.aload_n 0, 1), (0, 0, 0, 0)), (8, 11, (.getfield 22, 3), (4, 0, 0, 0)), (11, 14, (.if_icmp .ge 44, 3), (55, 0, 0, 0)), (14, 15, (.aload_n 0, 1), (0, 0, 0, 0)), (15, 17, (.iload 4, 2), (4, 0, 0, 0)), (17, 20, (.invokevirtual 34, 3), (19, 1, 0, 4)), (20, 22, (.astore 5, 2), (5, 0, 0, 0)), (22, 24, (.aload 5, 2), (5, 0, 0, 0)), (24, 25, (.aload_n 1, 1), (1, 0, 0, 0)), (25, 28, (.invokevirtual 38, 3), (7, 1, 0, 3)), (28, 31, (.ifCond .eq 21, 3), (49, 0, 0, 0)), (31, 33, (.aload 5, 2), (5, 0, 0, 0)), (33, 36, (.getfield 59, 3), (3, 5, 0, 0)), (36, 37, (.iload_n 2, 1), (2, 0, 0, 0)), (37, 40, (.if_icmp .eq 12, 3), (49, 0, 0, 0)), (40, 42, (.aload 5, 2), (5, 0, 0, 0)), (42, 43, (.iload_n 2, 1), (2, 0, 0, 0)), (43, 46, (.putfield 59, 3), (3, 5, 0, 0)), (46, 49, (.iinc 3 1, 3), (3, 0, 0, 0)), (49, 52, (.iinc 4 1, 3), (4, 0, 0, 0)), (52, 55, (.goto (-47), 3), (5, 0, 0, 0)), (55, 56, (.iload_n 3, 1), (3, 0, 0, 0)), (56, 57, (.ireturn, 1), (0, 0, 0, 0))], [(5, [0, 1, 2, 3, 4])], [], (1, 4), [])
def mc_X3_isCut : mg_C := ([(0, 1, (.iconst 0, 1), (0, 0, 0, 0)), (1, 2, (.istore_n 2, 1), (2, 0, 0, 0)), (2, 3, (.iload_n 2, 1), (2, 0, 0, 0)), (3, 4, (.aload_n 0, 1), (0, 0, 0, 0)), (4, 7, (.getfield 22, 3), (4, 0, 0, 0)), (7, 10, (.if_icmp .ge 35, 3), (42, 0, 0, 0)), (10, 11, (.aload_n 0, 1), (0, 0, 0, 0)), (11, 12, (.iload_n 2, 1), (2, 0, 0, 0)), (12, 15, (.invokevirtual 34, 3), (19, 1, 0, 4)), (15, 16, (.aload_n 1, 1), (1, 0, 0, 0)), (16, 19, (.invokevirtual 62, 3), (8, 1, 0, 3)), (19, 22, (.ifCond .eq 17, 3), (36, 0, 0, 0)), (22, 23, (.aload_n 0, 1), (0, 0, 0, 0)), (23, 24, (.iload_n 2, 1), (2, 0, 0, 0)), (24, 27, (.invokevirtual 34, 3), (19, 1, 0, 4)), (27, 28, (.aload_n 1, 1), (1, 0, 0, 0)), (28, 31, (.invokevirtual 38, 3), (7, 1, 0, 3)), (31, 34, (.ifCond .ne 5, 3), (36, 0, 0, 0)), (34, 35, (.iconst 1, 1), (0, 0, 0, 0)), (35, 36, (.ireturn, 1), (0, 0, 0, 0)), (36, 39, (.iinc 2 1, 3), (2, 0, 0, 0)), (39, 42, (.goto (-37), 3), (2, 0, 0, 0)), (42, 43, (.iconst 0, 1), (0, 0, 0, 0)), (43, 44, (.ireturn, 1), (0, 0, 0, 0))], [(2, [0, 1, 2])], [], (2, 4), [])
def mc_X3_isAcross : mg_C := ([(0, 1, (.iconst 0, 1), (0, 0, 0, 0)), (1, 2, (.istore_n 2, 1), (2, 0, 0, 0)), (2, 3, (.iload_n 2, 1), (2, 0, 0, 0)), (3, 4, (.aload_n 0, 1), (0, 0, 0, 0)), (4, 7, (.getfield 22, 3), (4, 0, 0, 0)), (7, 10, (.if_icmp .ge 23, 3), (30, 0, 0, 0)), (10, 11, (.aload_n 0, 1), (0, 0, 0, 0)), (11, 12, (.iload_n 2, 1), (2, 0, 0, 0)), (12, 15, (.invokevirtual 34, 3), (19, 1, 0, 4)), (15, 16, (.iload_n 1, 1), (1, 0, 0, 0)), (16, 19, (.invokevirtual 65, 3), (9, 1, 0, 3)), (19, 22, (.ifCond .eq 5, 3), (24, 0, 0, 0)), (22, 23, (.iconst 1, 1), (0, 0, 0, 0)), (23, 24, (.ireturn, 1), (0, 0, 0, 0)), (24, 27, (.iinc 2 1, 3), (2, 0, 0, 0)), (27, 30, (.goto (-25), 3), (2, 0, 0, 0)), (30, 31, (.iconst 0, 1), (0, 0, 0, 0)), (31, 32, (.ireturn, 1), (0, 0, 0, 0))], [(2, [0, 1, 2])], [], (2, 4), [])
def mc_X3_hasTall : mg_C := ([(0, 1, (.iconst 0, 1), (0, 0, 0, 0)), (1, 2, (.istore_n 3, 1), (3, 0, 0, 0)), (2, 3, (.iload_n 3, 1), (3, 0, 0, 0)), (3, 4, (.aload_n 0, 1), (0, 0, 0, 0)), (4, 7, (.getfield 22, 3), (4, 0, 0, 0)), (7, 10, (.if_icmp .ge 45, 3), (52, 0, 0, 0)), (10, 11, (.aload_n 0, 1), (0, 0, 0, 0)), (11, 12, (.iload_n 3, 1), (3, 0, 0, 0)), (12, 15, (.invokevirtual 34, 3), (19, 1, 0, 4)), (15, 17, (.astore 4, 2), (4, 0, 0, 0)), (17, 19, (.aload 4, 2), (4, 0, 0, 0)), (19, 22, (.getfield 46, 3), (3, 2, 0, 0)), (22, 23, (.iconst 1, 1), (0, 0, 0, 0)), (23, 26, (.if_icmp .le 23, 3), (46, 0, 0, 0)), (26, 28, (.aload 4, 2), (4, 0, 0, 0)), (28, 31, (.getfield 69, 3), (3, 0, 0, 0)), (31, 32, (.iload_n 2, 1), (2, 0, 0, 0)), (32, 35, (.if_icmp .gt 14, 3), (46, 0, 0, 0)), (35, 37, (.aload 4, 2), (4, 0, 0, 0)), (37, 40, (.invokevirtual 72, 3), (5, 0, 0, 3)), (40, 41, (.iload_n 1, 1), (1, 0, 0, 0)), (41, 44, (.if_icmp .lt 5, 3), (46, 0, 0, 0)), (44, 45, (.iconst 1, 1), (0, 0, 0, 0)), (45, 46, (.ireturn, 1), (0, 0, 0, 0)), (46, 49, (.iinc 3 1, 3), (3, 0, 0, 0)), (49, 52, (.goto (-47), 3), (2, 0, 0, 0)), (52, 53, (.iconst 0, 1), (0, 0, 0, 0)), (53, 54, (.ireturn, 1), (0, 0, 0, 0))], [(2, [0, 1, 2, 3])], [], (2, 4), [])
def mc_X3_mergedSquares : mg_C := ([(0, 1, (.iconst 0, 1), (0, 0, 0, 0)), (1, 2, (.istore_n 1, 1), (1, 0, 0, 0)), (2, 3, (.iconst 0, 1), (0, 0, 0, 0)), (3, 4, (.istore_n 2, 1), (2, 0, 0, 0)), (4, 5, (.iload_n 2, 1), (2, 0, 0, 0)), (5, 6, (.aload_n 0, 1), (0, 0, 0, 0)), (6, 9, (.getfield 22, 3), (4, 0, 0, 0)), (9, 12, (.if_icmp .ge 36, 3), (45, 0, 0, 0)), (12, 13, (.aload_n 0, 1), (0, 0, 0, 0)), (13, 14, (.iload_n 2, 1), (2, 0, 0, 0)), (14, 17, (.invokevirtual 34, 3), (19, 1, 0, 4)), (17, 20, (.getfield 46, 3), (3, 2, 0, 0)), (20, 21, (.aload_n 0, 1), (0, 0, 0, 0)), (21, 22, (.iload_n 2, 1), (2, 0, 0, 0)), (22, 25, (.invokevirtual 34, 3), (19, 1, 0, 4)), (25, 28, (.getfield 49, 3), (3, 3, 0, 0)), (28, 29, (.imul, 1), (0, 0, 0, 0)), (29, 30, (.istore_n 3, 1), (3, 0, 0, 0)), (30, 31, (.iload_n 3, 1), (3, 0, 0, 0)), (31, 32, (.iconst 1, 1), (0, 0, 0, 0)), (32, 35, (.if_icmp .le 7, 3), (39, 0, 0, 0)), (35, 36, (.iload_n 1, 1), (1, 0, 0, 0)), (36, 37, (.iload_n 3, 1), (3, 0, 0, 0)), (37, 38, (.iadd, 1), (0, 0, 0, 0)), (38, 39, (.istore_n 1, 1), (1, 0, 0, 0)), (39, 42, (.iinc 2 1, 3), (2, 0, 0, 0)), (42, 45, (.goto (-38), 3), (4, 0, 0, 0)), (45, 46, (.iload_n 1, 1), (1, 0, 0, 0)), (46, 47, (.ireturn, 1), (0, 0, 0, 0))], [(4, [0, 1, 2])], [], (1, 4), [])
def mc_X1_init : mg_C := ([(0, 1, (.aload_n 0, 1), (0, 0, 0, 0)), (1, 4, (.invokespecial 1, 3), (0, 0, 0, 0)), (4, 5, (.aload_n 0, 1), (0, 0, 0, 0)), (5, 8, (.new 7, 3), (4, 0, 0, 0)), (8, 9, (.dup, 1), (0, 0, 0, 0)), (9, 12, (.invokespecial 9, 3), (18, 0, 125, 0)), (12, 15, (.putfield 10, 3), (2, 2, 1, 1)), (15, 16, (.return_, 1), (0, 0, 0, 0))], [], [], (0, 2), [])
def mc_X1_isNothing : mg_C := ([(0, 1, (.aload_n 0, 1), (0, 0, 0, 0)), (1, 4, (.getfield 16, 3), (2, 0, 0, 0)), (4, 7, (.ifCond .ne 7, 3), (11, 0, 0, 0)), (7, 8, (.iconst 1, 1), (0, 0, 0, 0)), (8, 11, (.goto 4, 3), (12, 0, 0, 0)), (11, 12, (.iconst 0, 1), (0, 0, 0, 0)), (12, 13, (.ireturn, 1), (0, 0, 0, 0))], [], [], (2, 2), [])
def mc_X1_take : mg_C := ([(0, 1, (.aload_n 0, 1), (0, 0, 0, 0)), (1, 2, (.aload_n 2, 1), (2, 0, 0, 0)), (2, 5, (.getfield 20, 3), (1, 2, 0, 0)), (5, 6, (.aload_n 2, 1), (2, 0, 0, 0)), (6, 9, (.getfield 25, 3), (1, 0, 0, 0)), (9, 10, (.isub, 1), (0, 0, 0, 0)), (10, 11, (.iconst 1, 1), (0, 0, 0, 0)), (11, 12, (.iadd, 1), (0, 0, 0, 0)), (12, 15, (.putfield 16, 3), (2, 0, 0, 0)), (15, 16, (.aload_n 0, 1), (0, 0, 0, 0)), (16, 17, (.aload_n 2, 1), (2, 0, 0, 0)), (17, 20, (.getfield 28, 3), (1, 3, 0, 0)), (20, 21, (.aload_n 2, 1), (2, 0, 0, 0)), (21, 24, (.getfield 31, 3), (1, 1, 0, 0)), (24, 25, (.isub, 1), (0, 0, 0, 0)), (25, 26, (.iconst 1, 1), (0, 0, 0, 0)), (26, 27, (.iadd, 1), (0, 0, 0, 0)), (27, 30, (.putfield 34, 3), (2, 1, 0, 0)), (30, 31, (.aload_n 0, 1), (0, 0, 0, 0)), (31, 34, (.getfield 10, 3), (2, 2, 1, 0)), (34, 35, (.iconst 0, 1), (0, 0, 0, 0)), (35, 38, (.putfield 37, 3), (4, 0, 0, 0)), (38, 39, (.iconst 0, 1), (0, 0, 0, 0)), (39, 40, (.istore_n 3, 1), (3, 0, 0, 0)), (40, 41, (.iload_n 3, 1), (3, 0, 0, 0)), (41, 42, (.aload_n 1, 1), (1, 0, 0, 0)), (42, 45, (.getfield 37, 3), (4, 0, 0, 0)), (45, 48, (.if_icmp .ge 75, 3), (120, 0, 0, 0)), (48, 49, (.aload_n 1, 1), (1, 0, 0, 0)), (49, 50, (.iload_n 3, 1), (3, 0, 0, 0)), (50, 53, (.invokevirtual 40, 3), (19, 1, 0, 4)), (53, 55, (.astore 4, 2), (4, 0, 0, 0)), (55, 57, (.aload 4, 2), (4, 0, 0, 0)), (57, 58, (.aload_n 2, 1), (2, 0, 0, 0)), (58, 61, (.invokevirtual 44, 3), (7, 1, 0, 3)), (61, 64, (.ifCond .eq 53, 3), (114, 0, 0, 0)), (64, 65, (.aload_n 0, 1), (0, 0, 0, 0)), (65, 68, (.getfield 10, 3), (2, 2, 1, 0)), (68, 70, (.aload 4, 2), (4, 0, 0, 0)), (70, 73, (.getfield 50, 3), (3, 0, 0, 0)), (73, 74, (.aload_n 2, 1), (2, 0, 0, 0)), (74, 77, (.getfield 25, 3), (1, 0, 0, 0)), (77, 78, (.isub, 1), (0, 0, 0, 0)), (78, 80, (.aload 4, 2), (4, 0, 0, 0)), (80, 83, (.getfield 51, 3), (3, 1, 0, 0)), (83, 84, (.aload_n 2, 1), (2, 0, 0, 0)), (84, 87, (.getfield 31, 3), (1, 1, 0, 0)), (87, 88, (.isub, 1), (0, 0, 0, 0)), (88, 90, (.aload 4, 2), (4, 0, 0, 0)), (90, 93, (.getfield 52, 3), (3, 2, 0, 0)), (93, 95, (.aload 4, 2), (4, 0, 0, 0)), (95, 98, (.getfield 53, 3), (3, 3, 0, 0)), (98, 101, (.invokevirtual 54, 3), (20, 4, 0, 4)), (101, 103, (.aload 4, 2), (4, 0, 0, 0)), (103, 106, (.getfield 58, 3), (3, 4, 0, 0)), (106, 108, (.aload 4, 2), (4, 0, 0, 0)), (108, 111, (.getfield 61, 3), (3, 5, 0, 0)), (111, 114, (.invokevirtual 64, 3), (3, 2, 0, 3)), (114, 117, (.iinc 3 1, 3), (3, 0, 0, 0)), (117, 120, (.goto (-77), 3), (40, 0, 0, 0)), (120, 121, (.return_, 1), (0, 0, 0, 0))], [(40, [0, 1, 2, 3])], [], (0, 2), [])
def mc_X1_isAcross : mg_C := ([(0, 1, (.iconst 0, 1), (0, 0, 0, 0)), (1, 3, (.istore 4, 2), (4, 0, 0, 0)), (3, 5, (.iload 4, 2), (4, 0, 0, 0)), (5, 6, (.iload_n 3, 1), (3, 0, 0, 0)), (6, 9, (.if_icmp .ge 32, 3), (38, 0, 0, 0)), (9, 10, (.aload_n 0, 1), (0, 0, 0, 0)), (10, 13, (.getfield 10, 3), (2, 2, 1, 0)), (13, 14, (.iload_n 1, 1), (1, 0, 0, 0)), (14, 15, (.iload_n 2, 1), (2, 0, 0, 0)), (15, 16, (.isub, 1), (0, 0, 0, 0)), (16, 18, (.iload 4, 2), (4, 0, 0, 0)), (18, 19, (.aload_n 0, 1), (0, 0, 0, 0)), (19, 22, (.getfield 16, 3), (2, 0, 0, 0)), (22, 23, (.imul, 1), (0, 0, 0, 0)), (23, 24, (.isub, 1), (0, 0, 0, 0)), (24, 27, (.invokevirtual 68, 3), (31, 1, 0, 4)), (27, 30, (.ifCond .eq 5, 3), (32, 0, 0, 0)), (30, 31, (.iconst 1, 1), (0, 0, 0, 0)), (31, 32, (.ireturn, 1), (0, 0, 0, 0)), (32, 35, (.iinc 4 1, 3), (4, 0, 0, 0)), (35, 38, (.goto (-32), 3), (3, 0, 0, 0)), (38, 39, (.iconst 0, 1), (0, 0, 0, 0)), (39, 40, (.ireturn, 1), (0, 0, 0, 0))], [(3, [0, 1, 2, 3, 4])], [], (2, 2), [])
def mc_X4_init : mg_C := ([(0, 1, (.aload_n 0, 1), (0, 0, 0, 0)), (1, 4, (.invokespecial 3, 3), (0, 0, 0, 0)), (4, 5, (.aload_n 0, 1), (0, 0, 0, 0)), (5, 6, (.iconst 4, 1), (0, 0, 0, 0)), (6, 9, (.putfield 9, 3), (5, 0, 0, 0)), (9, 10, (.aload_n 0, 1), (0, 0, 0, 0)), (10, 11, (.iconst 4, 1), (0, 0, 0, 0)), (11, 14, (.putfield 15, 3), (5, 1, 0, 0)), (14, 15, (.aload_n 0, 1), (0, 0, 0, 0)), (15, 17, (.bipush 12, 2), (0, 0, 0, 0)), (17, 19, (.newarray .int, 2), (8, 0, 0, 0)), (19, 22, (.putfield 18, 3), (5, 3, 1, 1)), (22, 23, (.aload_n 0, 1), (0, 0, 0, 0)), (23, 25, (.bipush 10, 2), (0, 0, 0, 0)), (25, 27, (.newarray .int, 2), (8, 0, 0, 0)), (27, 30, (.putfield 22, 3), (5, 4, 1, 1)), (30, 31, (.aload_n 0, 1), (0, 0, 0, 0)), (31, 34, (.new 25, 3), (4, 0, 0, 0)), (34, 35, (.dup, 1), (0, 0, 0, 0)), (35, 38, (.invokespecial 27, 3), (18, 0, 125, 0)), (38, 41, (.putfield 28, 3), (5, 5, 1, 1)), (41, 42, (.aload_n 0, 1), (0, 0, 0, 0)), (42, 44, (.bipush 120, 2), (0, 0, 0, 0)), (44, 46, (.newarray .int, 2), (8, 0, 0, 0)), (46, 49, (.putfield 32, 3), (5, 6, 1, 1)), (49, 50, (.aload_n 0, 1), (0, 0, 0, 0)), (50, 52, (.bipush 12, 2), (0, 0, 0, 0)), (52, 54, (.newarray .int, 2), (8, 0, 0, 0)), (54, 57, (.putfield 35, 3), (5, 7, 1, 1)), (57, 58, (.aload_n 0, 1), (0, 0, 0, 0)), (58, 60, (.bipush 12, 2), (0, 0, 0, 0)), (60, 62, (.newarray .int, 2), (8, 0, 0, 0)), (62, 65, (.putfield 38, 3), (5, 8, 1, 1)), (65, 66, (.aload_n 0, 1), (0, 0, 0, 0)), (66, 69, (.getfield 18, 3), (5, 3, 1, 0)), (69, 71, (.bipush 20, 2), (0, 0, 0, 0)), (71, 74, (.invokestatic 41, 3), (70, 2, 0, 0)), (74, 75, (.aload_n 0, 1), (0, 0, 0, 0)), (75, 78, (.getfield 22, 3), (5, 4, 1, 0)), (78, 80, (.bipush 50, 2), (0, 0, 0, 0)), (80, 83, (.invokestatic 41, 3), (70, 2, 0, 0)), (83, 84, (.aload_n 0, 1), (0, 0, 0, 0)), (84, 87, (.invokevirtual 47, 3), (46, 0, 0, 5)), (87, 88, (.return_, 1), (0, 0, 0, 0))], [], [], (0, 5), [])
def mc_X4_hasRow : mg_C := ([(0, 1, (.iload_n 1, 1), (1, 0, 0, 0)), (1, 4, (.ifCond .lt 15, 3), (16, 0, 0, 0)), (4, 5, (.iload_n 1, 1), (1, 0, 0, 0)), (5, 6, (.aload_n 0, 1), (0, 0, 0, 0)), (6, 9, (.getfield 9, 3), (5, 0, 0, 0)), (9, 12, (.if_icmp .ge 7, 3), (16, 0, 0, 0)), (12, 13, (.iconst 1, 1), (0, 0, 0, 0)), (13, 16, (.goto 4, 3), (17, 0, 0, 0)), (16, 17, (.iconst 0, 1), (0, 0, 0, 0)), (17, 18, (.ireturn, 1), (0, 0, 0, 0))], [], [], (2, 5), [])
def mc_X4_hasColumn : mg_C := ([(0, 1, (.iload_n 1, 1), (1, 0, 0, 0)), (1, 4, (.ifCond .lt 15, 3), (16, 0, 0, 0)), (4, 5, (.iload_n 1, 1), (1, 0, 0, 0)), (5, 6, (.aload_n 0, 1), (0, 0, 0, 0)), (6, 9, (.getfield 15, 3), (5, 1, 0, 0)), (9, 12, (.if_icmp .ge 7, 3), (16, 0, 0, 0)), (12, 13, (.iconst 1, 1), (0, 0, 0, 0)), (13, 16, (.goto 4, 3), (17, 0, 0, 0)), (16, 17, (.iconst 0, 1), (0, 0, 0, 0)), (17, 18, (.ireturn, 1), (0, 0, 0, 0))], [], [], (2, 5), [])
def mc_X4_isInHeader : mg_C := ([(0, 1, (.iload_n 1, 1), (1, 0, 0, 0)), (1, 2, (.aload_n 0, 1), (0, 0, 0, 0)), (2, 5, (.getfield 50, 3), (5, 2, 0, 0)), (5, 8, (.if_icmp .ge 7, 3), (12, 0, 0, 0)), (8, 9, (.iconst 1, 1), (0, 0, 0, 0)), (9, 12, (.goto 4, 3), (13, 0, 0, 0)), (12, 13, (.iconst 0, 1), (0, 0, 0, 0)), (13, 14, (.ireturn, 1), (0, 0, 0, 0))], [], [], (2, 5), [])
def mc_X4_become : mg_C := ([(0, 1, (.aload_n 0, 1), (0, 0, 0, 0)), (1, 2, (.aload_n 1, 1), (1, 0, 0, 0)), (2, 5, (.getfield 9, 3), (5, 0, 0, 0)), (5, 8, (.putfield 9, 3), (5, 0, 0, 0)), (8, 9, (.aload_n 0, 1), (0, 0, 0, 0)), (9, 10, (.aload_n 1, 1), (1, 0, 0, 0)), (10, 13, (.getfield 15, 3), (5, 1, 0, 0)), (13, 16, (.putfield 15, 3), (5, 1, 0, 0)), (16, 17, (.aload_n 0, 1), (0, 0, 0, 0)), (17, 18, (.aload_n 1, 1), (1, 0, 0, 0)), (18, 21, (.getfield 50, 3), (5, 2, 0, 0)), (21, 24, (.putfield 50, 3), (5, 2, 0, 0)), (24, 25, (.aload_n 1, 1), (1, 0, 0, 0)), (25, 28, (.getfield 18, 3), (5, 3, 1, 0)), (28, 29, (.iconst 0, 1), (0, 0, 0, 0)), (29, 30, (.aload_n 0, 1), (0, 0, 0, 0)), (30, 33, (.getfield 18, 3), (5, 3, 1, 0)), (33, 34, (.iconst 0, 1), (0, 0, 0, 0)), (34, 36, (.bipush 12, 2), (0, 0, 0, 0)), (36, 39, (.invokestatic 53, 3), (1002, 0, 0, 0)), (39, 40, (.aload_n 1, 1), (1, 0, 0, 0)), (40, 43, (.getfield 22, 3), (5, 4, 1, 0)), (43, 44, (.iconst 0, 1), (0, 0, 0, 0)), (44, 45, (.aload_n 0, 1), (0, 0, 0, 0)), (45, 48, (.getfield 22, 3), (5, 4, 1, 0)), (48, 49, (.iconst 0, 1), (0, 0, 0, 0)), (49, 51, (.bipush 10, 2), (0, 0, 0, 0)), (51, 54, (.invokestatic 53, 3), (1002, 0, 0, 0)), (54, 55, (.aload_n 1, 1), (1, 0, 0, 0)), (55, 58, (.getfield 32, 3), (5, 6, 1, 0)), (58, 59, (.iconst 0, 1), (0, 0, 0, 0)), (59, 60, (.aload_n 0, 1), (0, 0, 0, 0)), (60, 63, (.getfield 32, 3), (5, 6, 1, 0)), (63, 64, (.iconst 0, 1), (0, 0, 0, 0)), (64, 66, (.bipush 120, 2), (0, 0, 0, 0)), (66, 69, (.invokestatic 53, 3), (1002, 0, 0, 0)), (69, 70, (.aload_n 0, 1), (0, 0, 0, 0)), (70, 73, (.getfield 28, 3), (5, 5, 1, 0)), (73, 74, (.aload_n 1, 1), (1, 0, 0, 0)), (74, 77, (.getfield 28, 3), (5, 5, 1, 0)), (77, 80, (.invokevirtual 59, 3), (24, 1, 0, 4)), (80, 81, (.return_, 1), (0, 0, 0, 0))], [], [], (0, 5), [])
def mc_X4_ownerOf : mg_C := ([(0, 1, (.aload_n 0, 1), (0, 0, 0, 0)), (1, 2, (.iload_n 1, 1), (1, 0, 0, 0)), (2, 5, (.invokevirtual 63, 3), (39, 1, 0, 5)), (5, 8, (.ifCond .eq 25, 3), (30, 0, 0, 0)), (8, 9, (.aload_n 0, 1), (0, 0, 0, 0)), (9, 10, (.iload_n 2, 1), (2, 0, 0, 0)), (10, 13, (.invokevirtual 67, 3), (40, 1, 0, 5)), (13, 16, (.ifCond .eq 17, 3), (30, 0, 0, 0)), (16, 17, (.aload_n 0, 1), (0, 0, 0, 0)), (17, 20, (.getfield 32, 3), (5, 6, 1, 0)), (20, 21, (.iload_n 1, 1), (1, 0, 0, 0)), (21, 23, (.bipush 10, 2), (0, 0, 0, 0)), (23, 24, (.imul, 1), (0, 0, 0, 0)), (24, 25, (.iload_n 2, 1), (2, 0, 0, 0)), (25, 26, (.iadd, 1), (0, 0, 0, 0)), (26, 27, (.iaload, 1), (8, 0, 0, 0)), (27, 30, (.goto 4, 3), (31, 0, 0, 0)), (30, 31, (.iconst (-1), 1), (0, 0, 0, 0)), (31, 32, (.ireturn, 1), (0, 0, 0, 0))], [], [], (1, 5), [])
def mc_X4_setOwner : mg_C := ([(0, 1, (.aload_n 0, 1), (0, 0, 0, 0)), (1, 2, (.iload_n 1, 1), (1, 0, 0, 0)), (2, 5, (.invokevirtual 63, 3), (39, 1, 0, 5)), (5, 8, (.ifCond .eq 23, 3), (28, 0, 0, 0)), (8, 9, (.aload_n 0, 1), (0, 0, 0, 0)), (9, 10, (.iload_n 2, 1), (2, 0, 0, 0)), (10, 13, (.invokevirtual 67, 3), (40, 1, 0, 5)), (13, 16, (.ifCond .eq 15, 3), (28, 0, 0, 0)), (16, 17, (.aload_n 0, 1), (0, 0, 0, 0)), (17, 20, (.getfield 32, 3), (5, 6, 1, 0)), (20, 21, (.iload_n 1, 1), (1, 0, 0, 0)), (21, 23, (.bipush 10, 2), (0, 0, 0, 0)), (23, 24, (.imul, 1), (0, 0, 0, 0)), (24, 25, (.iload_n 2, 1), (2, 0, 0, 0)), (25, 26, (.iadd, 1), (0, 0, 0, 0)), (26, 27, (.iload_n 3, 1), (3, 0, 0, 0)), (27, 28, (.iastore, 1), (0, 0, 0, 0)), (28, 29, (.return_, 1), (0, 0, 0, 0))], [], [], (0, 5), [])
def mc_X4_cellOn : mg_C := ([(0, 1, (.aload_n 0, 1), (0, 0, 0, 0)), (1, 4, (.getfield 28, 3), (5, 5, 1, 0)), (4, 5, (.aload_n 0, 1), (0, 0, 0, 0)), (5, 6, (.iload_n 1, 1), (1, 0, 0, 0)), (6, 7, (.iload_n 2, 1), (2, 0, 0, 0)), (7, 10, (.invokevirtual 70, 3), (43, 2, 0, 5)), (10, 13, (.invokevirtual 74, 3), (19, 1, 0, 4)), (13, 14, (.areturn, 1), (0, 0, 0, 0))], [], [], (3, 5), [])
def mc_X4_settle : mg_C := ([(0, 1, (.aload_n 0, 1), (0, 0, 0, 0)), (1, 4, (.getfield 32, 3), (5, 6, 1, 0)), (4, 5, (.iconst (-1), 1), (0, 0, 0, 0)), (5, 8, (.invokestatic 41, 3), (70, 2, 0, 0)), (8, 9, (.iconst 0, 1), (0, 0, 0, 0)), (9, 10, (.istore_n 1, 1), (1, 0, 0, 0)), (10, 11, (.iload_n 1, 1), (1, 0, 0, 0)), (11, 12, (.aload_n 0, 1), (0, 0, 0, 0)), (12, 15, (.getfield 28, 3), (5, 5, 1, 0)), (15, 18, (.getfield 78, 3), (4, 0, 0, 0)), (18, 21, (.if_icmp .ge 14, 3), (32, 0, 0, 0)), (21, 22, (.aload_n 0, 1), (0, 0, 0, 0)), (22, 23, (.iload_n 1, 1), (1, 0, 0, 0)), (23, 26, (.invokevirtual 81, 3), (47, 1, 0, 5)), (26, 29, (.iinc 1 1, 3), (1, 0, 0, 0)), (29, 32, (.goto (-19), 3), (10, 0, 0, 0)), (32, 33, (.iconst 0, 1), (0, 0, 0, 0)), (33, 34, (.istore_n 1, 1), (1, 0, 0, 0)), (34, 35, (.iload_n 1, 1), (1, 0, 0, 0)), (35, 36, (.aload_n 0, 1), (0, 0, 0, 0)), (36, 39, (.getfield 9, 3), (5, 0, 0, 0)), (39, 42, (.if_icmp .ge 59, 3), (98, 0, 0, 0)), (42, 43, (.iconst 0, 1), (0, 0, 0, 0)), (43, 44, (.istore_n 2, 1), (2, 0, 0, 0)), (44, 45, (.iload_n 2, 1), (2, 0, 0, 0)), (45, 46, (.aload_n 0, 1), (0, 0, 0, 0)), (46, 49, (.getfield 15, 3), (5, 1, 0, 0)), (49, 52, (.if_icmp .ge 43, 3), (92, 0, 0, 0)), (52, 53, (.aload_n 0, 1), (0, 0, 0, 0)), (53, 54, (.iload_n 1, 1), (1, 0, 0, 0)), (54, 55, (.iload_n 2, 1), (2, 0, 0, 0)), (55, 58, (.invokevirtual 70, 3), (43, 2, 0, 5)), (58, 61, (.ifCond .ge 28, 3), (86, 0, 0, 0)), (61, 62, (.aload_n 0, 1), (0, 0, 0, 0)), (62, 63, (.iload_n 1, 1), (1, 0, 0, 0)), (63, 64, (.iload_n 2, 1), (2, 0, 0, 0)), (64, 65, (.aload_n 0, 1), (0, 0, 0, 0)), (65, 68, (.getfield 28, 3), (5, 5, 1, 0)), (68, 71, (.getfield 78, 3), (4, 0, 0, 0)), (71, 74, (.invokevirtual 85, 3), (44, 3, 0, 5)), (74, 75, (.aload_n 0, 1), (0, 0, 0, 0)), (75, 78, (.getfield 28, 3), (5, 5, 1, 0)), (78, 79, (.iload_n 1, 1), (1, 0, 0, 0)), (79, 80, (.iload_n 2, 1), (2, 0, 0, 0)), (80, 81, (.iconst 1, 1), (0, 0, 0, 0)), (81, 82, (.iconst 1, 1), (0, 0, 0, 0)), (82, 85, (.invokevirtual 89, 3), (20, 4, 0, 4)), (85, 86, (.pop, 1), (0, 0, 0, 0)), (86, 89, (.iinc 2 1, 3), (2, 0, 0, 0)), (89, 92, (.goto (-45), 3), (44, 0, 0, 0)), (92, 95, (.iinc 1 1, 3), (1, 0, 0, 0)), (95, 98, (.goto (-61), 3), (34, 0, 0, 0)), (98, 99, (.return_, 1), (0, 0, 0, 0))], [(10, [0, 1]), (34, [0, 1]), (44, [0, 1, 2])], [], (0, 5), [])
def mc_X4_own : mg_C := ([(0, 1, (.aload_n 0, 1), (0, 0, 0, 0)), (1, 4, (.getfield 28, 3), (5, 5, 1, 0)), (4, 5, (.iload_n 1, 1), (1, 0, 0, 0)), (5, 8, (.invokevirtual 74, 3), (19, 1, 0, 4)), (8, 9, (.astore_n 2, 1), (2, 0, 0, 0)), (9, 10, (.aload_n 2, 1), (2, 0, 0, 0)), (10, 13, (.getfield 93, 3), (3, 0, 0, 0)), (13, 14, (.istore_n 3, 1), (3, 0, 0, 0)), (14, 15, (.iload_n 3, 1), (3, 0, 0, 0)), (15, 16, (.aload_n 2, 1), (2, 0, 0, 0)), (16, 19, (.invokevirtual 98, 3), (5, 0, 0, 3)), (19, 22, (.if_icmp .gt 38, 3), (57, 0, 0, 0)), (22, 23, (.aload_n 2, 1), (2, 0, 0, 0)), (23, 26, (.getfield 102, 3), (3, 1, 0, 0)), (26, 28, (.istore 4, 2), (4, 0, 0, 0)), (28, 30, (.iload 4, 2), (4, 0, 0, 0)), (30, 31, (.aload_n 2, 1), (2, 0, 0, 0)), (31, 34, (.invokevirtual 105, 3), (6, 0, 0, 3)), (34, 37, (.if_icmp .gt 17, 3), (51, 0, 0, 0)), (37, 38, (.aload_n 0, 1), (0, 0, 0, 0)), (38, 39, (.iload_n 3, 1), (3, 0, 0, 0)), (39, 41, (.iload 4, 2), (4, 0, 0, 0)), (41, 42, (.iload_n 1, 1), (1, 0, 0, 0)), (42, 45, (.invokevirtual 85, 3), (44, 3, 0, 5)), (45, 48, (.iinc 4 1, 3), (4, 0, 0, 0)), (48, 51, (.goto (-20), 3), (28, 0, 0, 0)), (51, 54, (.iinc 3 1, 3), (3, 0, 0, 0)), (54, 57, (.goto (-40), 3), (14, 0, 0, 0)), (57, 58, (.return_, 1), (0, 0, 0, 0))], [(14, [0, 1, 2, 3]), (28, [0, 1, 2, 3, 4])], [], (0, 5), [])
def mc_X4_addRow : mg_C := ([(0, 1, (.iconst 0, 1), (0, 0, 0, 0)), (1, 2, (.istore_n 2, 1), (2, 0, 0, 0)), (2, 3, (.iload_n 2, 1), (2, 0, 0, 0)), (3, 4, (.aload_n 0, 1), (0, 0, 0, 0)), (4, 7, (.getfield 28, 3), (5, 5, 1, 0)), (7, 10, (.getfield 78, 3), (4, 0, 0, 0)), (10, 13, (.if_icmp .ge 21, 3), (31, 0, 0, 0)), (13, 14, (.aload_n 0, 1), (0, 0, 0, 0)), (14, 17, (.getfield 28, 3), (5, 5, 1, 0)), (17, 18, (.iload_n 2, 1), (2, 0, 0, 0)), (18, 21, (.invokevirtual 74, 3), (19, 1, 0, 4)), (21, 22, (.iload_n 1, 1), (1, 0, 0, 0)), (22, 25, (.invokevirtual 108, 3), (10, 1, 0, 3)), (25, 28, (.iinc 2 1, 3), (2, 0, 0, 0)), (28, 31, (.goto (-26), 3), (2, 0, 0, 0)), (31, 32, (.aload_n 0, 1), (0, 0, 0, 0)), (32, 35, (.getfield 18, 3), (5, 3, 1, 0)), (35, 36, (.iload_n 1, 1), (1, 0, 0, 0)), (36, 38, (.bipush 20, 2), (0, 0, 0, 0)), (38, 41, (.invokestatic 111, 3), (52, 3, 0, 0)), (41, 42, (.aload_n 0, 1), (0, 0, 0, 0)), (42, 43, (.dup, 1), (0, 0, 0, 0)), (43, 46, (.getfield 9, 3), (5, 0, 0, 0)), (46, 47, (.iconst 1, 1), (0, 0, 0, 0)), (47, 48, (.iadd, 1), (0, 0, 0, 0)), (48, 51, (.putfield 9, 3), (5, 0, 0, 0)), (51, 52, (.aload_n 0, 1), (0, 0, 0, 0)), (52, 53, (.iload_n 1, 1), (1, 0, 0, 0)), (53, 56, (.invokevirtual 115, 3), (41, 1, 0, 5)), (56, 59, (.ifCond .eq 13, 3), (69, 0, 0, 0)), (59, 60, (.aload_n 0, 1), (0, 0, 0, 0)), (60, 61, (.dup, 1), (0, 0, 0, 0)), (61, 64, (.getfield 50, 3), (5, 2, 0, 0)), (64, 65, (.iconst 1, 1), (0, 0, 0, 0)), (65, 66, (.iadd, 1), (0, 0, 0, 0)), (66, 69, (.putfield 50, 3), (5, 2, 0, 0)), (69, 70, (.aload_n 0, 1), (0, 0, 0, 0)), (70, 73, (.invokevirtual 47, 3), (46, 0, 0, 5)), (73, 74, (.return_, 1), (0, 0, 0, 0))], [(2, [0, 1, 2])], [], (0, 5), [])
def mc_X4_addColumn : mg_C := ([(0, 1, (.iconst 0, 1), (0, 0, 0, 0)), (1, 2, (.istore_n 2, 1), (2, 0, 0, 0)), (2, 3, (.iload_n 2, 1), (2, 0, 0, 0)), (3, 4, (.aload_n 0, 1), (0, 0, 0, 0)), (4, 7, (.getfield 28, 3), (5, 5, 1, 0)), (7, 10, (.getfield 78, 3), (4, 0, 0, 0)), (10, 13, (.if_icmp .ge 21, 3), (31, 0, 0, 0)), (13, 14, (.aload_n 0, 1), (0, 0, 0, 0)), (14, 17, (.getfield 28, 3), (5, 5, 1, 0)), (17, 18, (.iload_n 2, 1), (2, 0, 0, 0)), (18, 21, (.invokevirtual 74, 3), (19, 1, 0, 4)), (21, 22, (.iload_n 1, 1), (1, 0, 0, 0)), (22, 25, (.invokevirtual 118, 3), (11, 1, 0, 3)), (25, 28, (.iinc 2 1, 3), (2, 0, 0, 0)), (28, 31, (.goto (-26), 3), (2, 0, 0, 0)), (31, 32, (.aload_n 0, 1), (0, 0, 0, 0)), (32, 35, (.getfield 22, 3), (5, 4, 1, 0)), (35, 36, (.iload_n 1, 1), (1, 0, 0, 0)), (36, 38, (.bipush 50, 2), (0, 0, 0, 0)), (38, 41, (.invokestatic 111, 3), (52, 3, 0, 0)), (41, 42, (.aload_n 0, 1), (0, 0, 0, 0)), (42, 43, (.dup, 1), (0, 0, 0, 0)), (43, 46, (.getfield 15, 3), (5, 1, 0, 0)), (46, 47, (.iconst 1, 1), (0, 0, 0, 0)), (47, 48, (.iadd, 1), (0, 0, 0, 0)), (48, 51, (.putfield 15, 3), (5, 1, 0, 0)), (51, 52, (.aload_n 0, 1), (0, 0, 0, 0)), (52, 55, (.invokevirtual 47, 3), (46, 0, 0, 5)), (55, 56, (.return_, 1), (0, 0, 0, 0))], [(2, [0, 1, 2])], [], (0, 5), [])
def mc_X4_dropRow : mg_C := ([(0, 1, (.iconst 0, 1), (0, 0, 0, 0)), (1, 2, (.istore_n 2, 1), (2, 0, 0, 0)), (2, 3, (.iload_n 2, 1), (2, 0, 0, 0)), (3, 4, (.aload_n 0, 1), (0, 0, 0, 0)), (4, 7, (.getfield 28, 3), (5, 5, 1, 0)), (7, 10, (.getfield 78, 3), (4, 0, 0, 0)), (10, 13, (.if_icmp .ge 21, 3), (31, 0, 0, 0)), (13, 14, (.aload_n 0, 1), (0, 0, 0, 0)), (14, 17, (.getfield 28, 3), (5, 5, 1, 0)), (17, 18, (.iload_n 2, 1), (2, 0, 0, 0)), (18, 21, (.invokevirtual 74, 3), (19, 1, 0, 4)), (21, 22, (.iload_n 1, 1), (1, 0, 0, 0)), (22, 25, (.invokevirtual 121, 3), (12, 1, 0, 3)), (25, 28, (.iinc 2 1, 3), (2, 0, 0, 0)), (28, 31, (.goto (-26), 3), (2, 0, 0, 0)), (31, 32, (.aload_n 0, 1), (0, 0, 0, 0)), (32, 35, (.getfield 28, 3), (5, 5, 1, 0)), (35, 38, (.invokevirtual 124, 3), (23, 0, 0, 4)), (38, 39, (.aload_n 0, 1), (0, 0, 0, 0)), (39, 42, (.getfield 18, 3), (5, 3, 1, 0)), (42, 43, (.iload_n 1, 1), (1, 0, 0, 0)), (43, 46, (.invokestatic 127, 3), (53, 2, 0, 0)), (46, 47, (.aload_n 0, 1), (0, 0, 0, 0)), (47, 48, (.dup, 1), (0, 0, 0, 0)), (48, 51, (.getfield 9, 3), (5, 0, 0, 0)), (51, 52, (.iconst 1, 1), (0, 0, 0, 0)), (52, 53, (.isub, 1), (0, 0, 0, 0)), (53, 56, (.putfield 9, 3), (5, 0, 0, 0)), (56, 57, (.aload_n 0, 1), (0, 0, 0, 0)), (57, 58, (.iload_n 1, 1), (1, 0, 0, 0)), (58, 61, (.invokevirtual 115, 3), (41, 1, 0, 5)), (61, 64, (.ifCond .eq 13, 3), (74, 0, 0, 0)), (64, 65, (.aload_n 0, 1), (0, 0, 0, 0)), (65, 66, (.dup, 1), (0, 0, 0, 0)), (66, 69, (.getfield 50, 3), (5, 2, 0, 0)), (69, 70, (.iconst 1, 1), (0, 0, 0, 0)), (70, 71, (.isub, 1), (0, 0, 0, 0)), (71, 74, (.putfield 50, 3), (5, 2, 0, 0)), (74, 75, (.aload_n 0, 1), (0, 0, 0, 0)), (75, 78, (.invokevirtual 47, 3), (46, 0, 0, 5)), (78, 79, (.return_, 1), (0, 0, 0, 0))], [(2, [0, 1, 2])], [], (0, 5), [])
def mc_X4_dropColumn : mg_C := ([(0, 1, (.iconst 0, 1), (0, 0, 0, 0)), (1, 2, (.istore_n 2, 1), (2, 0, 0, 0)), (2, 3, (.iload_n 2, 1), (2, 0, 0, 0)), (3, 4, (.aload_n 0, 1), (0, 0, 0, 0)), (4, 7, (.getfield 28, 3), (5, 5, 1, 0)), (7, 10, (.getfield 78, 3), (4, 0, 0, 0)), (10, 13, (.if_icmp .ge 21, 3), (31, 0, 0, 0)), (13, 14, (.aload_n 0, 1), (0, 0, 0, 0)), (14, 17, (.getfield 28, 3), (5, 5, 1, 0)), (17, 18, (.iload_n 2, 1), (2, 0, 0, 0)), (18, 21, (.invokevirtual 74, 3), (19, 1, 0, 4)), (21, 22, (.iload_n 1, 1), (1, 0, 0, 0)), (22, 25, (.invokevirtual 130, 3), (13, 1, 0, 3)), (25, 28, (.iinc 2 1, 3), (2, 0, 0, 0)), (28, 31, (.goto (-26), 3), (2, 0, 0, 0)), (31, 32, (.aload_n 0, 1), (0, 0, 0, 0)), (32, 35, (.getfield 28, 3), (5, 5, 1, 0)), (35, 38, (.invokevirtual 124, 3), (23, 0, 0, 4)), (38, 39, (.aload_n 0, 1), (0, 0, 0, 0)), (39, 42, (.getfield 22, 3), (5, 4, 1, 0)), (42, 43, (.iload_n 1, 1), (1, 0, 0, 0)), (43, 46, (.invokestatic 127, 3), (53, 2, 0, 0)), (46, 47, (.aload_n 0, 1), (0, 0, 0, 0)), (47, 48, (.dup, 1), (0, 0, 0, 0)), (48, 51, (.getfield 15, 3), (5, 1, 0, 0)), (51, 52, (.iconst 1, 1), (0, 0, 0, 0)), (52, 53, (.isub, 1), (0, 0, 0, 0)), (53, 56, (.putfield 15, 3), (5, 1, 0, 0)), (56, 57, (.aload_n 0, 1), (0, 0, 0, 0)), (57, 60, (.invokevirtual 47, 3), (46, 0, 0, 5)), (60, 61, (.return_, 1), (0, 0, 0, 0))], [(2, [0, 1, 2])], [], (0, 5), [])
def mc_X4_insertSize : mg_C := ([(0, 1, (.aload_n 0, 1), (0, 0, 0, 0)), (1, 2, (.arraylength, 1), (8, 0, 0, 0)), (2, 3, (.iconst 1, 1), (0, 0, 0, 0)), (3, 4, (.isub, 1), (0, 0, 0, 0)), (4, 5, (.istore_n 3, 1), (3, 0, 0, 0)), (5, 6, (.iload_n 3, 1), (3, 0, 0, 0)), (6, 7, (.iload_n 1, 1), (1, 0, 0, 0)), (7, 10, (.if_icmp .le 21, 3), (28, 0, 0, 0)), (10, 11, (.iload_n 3, 1), (3, 0, 0, 0)), (11, 14, (.ifCond .le 17, 3), (28, 0, 0, 0)), (14, 15, (.aload_n 0, 1), (0, 0, 0, 0)), (15, 16, (.iload_n 3, 1), (3, 0, 0, 0)), (16, 17, (.aload_n 0, 1), (0, 0, 0, 0)), (17, 18, (.iload_n 3, 1), (3, 0, 0, 0)), (18, 19, (.iconst 1, 1), (0, 0, 0, 0)), (19, 20, (.isub, 1), (0, 0, 0, 0)), (20, 21, (.iaload, 1), (8, 0, 0, 0)), (21, 22, (.iastore, 1), (0, 0, 0, 0)), (22, 25, (.iinc 3 (-1), 3), (3, 0, 0, 0)), (25, 28, (.goto (-20), 3), (5, 0, 0, 0)), (28, 29, (.iload_n 1, 1), (1, 0, 0, 0)), (29, 32, (.ifCond .lt 13, 3), (42, 0, 0, 0)), (32, 33, (.iload_n 1, 1), (1, 0, 0, 0)), (33, 34, (.aload_n 0, 1), (0, 0, 0, 0)), (34, 35, (.arraylength, 1), (8, 0, 0, 0)), (35, 38, (.if_icmp .ge 7, 3), (42, 0, 0, 0)), (38, 39, (.aload_n 0, 1), (0, 0, 0, 0)), (39, 40, (.iload_n 1, 1), (1, 0, 0, 0)), (40, 41, (.iload_n 2, 1), (2, 0, 0, 0)), (41, 42, (.iastore, 1), (0, 0, 0, 0)), (42, 43, (.return_, 1), (0, 0, 0, 0))], [(5, [0, 1, 2, 3])], [], (0, 5), [])
def mc_X4_removeSize : mg_C := ([(0, 1, (.iload_n 1, 1), (1, 0, 0, 0)), (1, 2, (.iconst 0, 1), (0, 0, 0, 0)), (2, 5, (.invokestatic 133, 3), (1000, 0, 0, 0)), (5, 6, (.istore_n 2, 1), (2, 0, 0, 0)), (6, 7, (.iload_n 2, 1), (2, 0, 0, 0)), (7, 8, (.iconst 1, 1), (0, 0, 0, 0)), (8, 9, (.iadd, 1), (0, 0, 0, 0)), (9, 10, (.aload_n 0, 1), (0, 0, 0, 0)), (10, 11, (.arraylength, 1), (8, 0, 0, 0)), (11, 14, (.if_icmp .ge 17, 3), (28, 0, 0, 0)), (14, 15, (.aload_n 0, 1), (0, 0, 0, 0)), (15, 16, (.iload_n 2, 1), (2, 0, 0, 0)), (16, 17, (.aload_n 0, 1), (0, 0, 0, 0)), (17, 18, (.iload_n 2, 1), (2, 0, 0, 0)), (18, 19, (.iconst 1, 1), (0, 0, 0, 0)), (19, 20, (.iadd, 1), (0, 0, 0, 0)), (20, 21, (.iaload, 1), (8, 0, 0, 0)), (21, 22, (.iastore, 1), (0, 0, 0, 0)), (22, 25, (.iinc 2 1, 3), (2, 0, 0, 0)), (25, 28, (.goto (-19), 3), (6, 0, 0, 0)), (28, 29, (.return_, 1), (0, 0, 0, 0))], [(6, [0, 2])], [], (0, 5), [])
def mc_X4_planMove : mg_C := ([(0, 1, (.iconst 0, 1), (0, 0, 0, 0)), (1, 2, (.istore_n 3, 1), (3, 0, 0, 0)), (2, 3, (.iload_n 3, 1), (3, 0, 0, 0)), (3, 5, (.bipush 12, 2), (0, 0, 0, 0)), (5, 8, (.if_icmp .ge 75, 3), (80, 0, 0, 0)), (8, 9, (.iload_n 3, 1), (3, 0, 0, 0)), (9, 10, (.iload_n 1, 1), (1, 0, 0, 0)), (10, 13, (.if_icmp .ne 13, 3), (23, 0, 0, 0)), (13, 14, (.aload_n 0, 1), (0, 0, 0, 0)), (14, 17, (.getfield 35, 3), (5, 7, 1, 0)), (17, 18, (.iload_n 3, 1), (3, 0, 0, 0)), (18, 19, (.iload_n 2, 1), (2, 0, 0, 0)), (19, 20, (.iastore, 1), (0, 0, 0, 0)), (20, 23, (.goto 54, 3), (74, 0, 0, 0)), (23, 24, (.iload_n 3, 1), (3, 0, 0, 0)), (24, 25, (.iload_n 1, 1), (1, 0, 0, 0)), (25, 28, (.if_icmp .le 20, 3), (45, 0, 0, 0)), (28, 29, (.iload_n 3, 1), (3, 0, 0, 0)), (29, 30, (.iload_n 2, 1), (2, 0, 0, 0)), (30, 33, (.if_icmp .gt 15, 3), (45, 0, 0, 0)), (33, 34, (.aload_n 0, 1), (0, 0, 0, 0)), (34, 37, (.getfield 35, 3), (5, 7, 1, 0)), (37, 38, (.iload_n 3, 1), (3, 0, 0, 0)), (38, 39, (.iload_n 3, 1), (3, 0, 0, 0)), (39, 40, (.iconst 1, 1), (0, 0, 0, 0)), (40, 41, (.isub, 1), (0, 0, 0, 0)), (41, 42, (.iastore, 1), (0, 0, 0, 0)), (42, 45, (.goto 32, 3), (74, 0, 0, 0)), (45, 46, (.iload_n 3, 1), (3, 0, 0, 0)), (46, 47, (.iload_n 1, 1), (1, 0, 0, 0)), (47, 50, (.if_icmp .ge 20, 3), (67, 0, 0, 0)), (50, 51, (.iload_n 3, 1), (3, 0, 0, 0)), (51, 52, (.iload_n 2, 1), (2, 0, 0, 0)), (52, 55, (.if_icmp .lt 15, 3), (67, 0, 0, 0)), (55, 56, (.aload_n 0, 1), (0, 0, 0, 0)), (56, 59, (.getfield 35, 3), (5, 7, 1, 0)), (59, 60, (.iload_n 3, 1), (3, 0, 0, 0)), (60, 61, (.iload_n 3, 1), (3, 0, 0, 0)), (61, 62, (.iconst 1, 1), (0, 0, 0, 0)), (62, 63, (.iadd, 1), (0, 0, 0, 0)), (63, 64, (.iastore, 1), (0, 0, 0, 0)), (64, 67, (.goto 10, 3), (74, 0, 0, 0)), (67, 68, (.aload_n 0, 1), (0, 0, 0, 0)), (68, 71, (.getfield 35, 3), (5, 7, 1, 0)), (71, 72, (.iload_n 3, 1), (3, 0, 0, 0)), (72, 73, (.iload_n 3, 1), (3, 0, 0, 0)), (73, 74, (.iastore, 1), (0, 0, 0, 0)), (74, 77, (.iinc 3 1, 3), (3, 0, 0, 0)), (77, 80, (.goto (-75), 3), (2, 0, 0, 0)), (80, 81, (.return_, 1), (0, 0, 0, 0))], [(2, [0, 1, 2, 3])], [], (0, 5), [])
def mc_X4_planSort : mg_C := ([(0, 1, (.iconst 0, 1), (0, 0, 0, 0)), (1, 2, (.istore_n 3, 1), (3, 0, 0, 0)), (2, 3, (.iload_n 3, 1), (3, 0, 0, 0)), (3, 5, (.bipush 12, 2), (0, 0, 0, 0)), (5, 8, (.if_icmp .ge 59, 3), (64, 0, 0, 0)), (8, 9, (.iload_n 3, 1), (3, 0, 0, 0)), (9, 10, (.aload_n 0, 1), (0, 0, 0, 0)), (10, 13, (.getfield 50, 3), (5, 2, 0, 0)), (13, 16, (.if_icmp .lt 15, 3), (28, 0, 0, 0)), (16, 17, (.iload_n 3, 1), (3, 0, 0, 0)), (17, 18, (.aload_n 0, 1), (0, 0, 0, 0)), (18, 21, (.getfield 9, 3), (5, 0, 0, 0)), (21, 24, (.if_icmp .ge 7, 3), (28, 0, 0, 0)), (24, 25, (.iconst 1, 1), (0, 0, 0, 0)), (25, 28, (.goto 4, 3), (29, 0, 0, 0)), (28, 29, (.iconst 0, 1), (0, 0, 0, 0)), (29, 31, (.istore 4, 2), (4, 0, 0, 0)), (31, 32, (.aload_n 0, 1), (0, 0, 0, 0)), (32, 35, (.getfield 35, 3), (5, 7, 1, 0)), (35, 36, (.iload_n 3, 1), (3, 0, 0, 0)), (36, 38, (.iload 4, 2), (4, 0, 0, 0)), (38, 41, (.ifCond .eq 18, 3), (56, 0, 0, 0)), (41, 42, (.aload_n 0, 1), (0, 0, 0, 0)), (42, 45, (.getfield 50, 3), (5, 2, 0, 0)), (45, 46, (.aload_n 0, 1), (0, 0, 0, 0)), (46, 47, (.iload_n 3, 1), (3, 0, 0, 0)), (47, 48, (.iload_n 1, 1), (1, 0, 0, 0)), (48, 49, (.iload_n 2, 1), (2, 0, 0, 0)), (49, 52, (.invokevirtual 138, 3), (56, 3, 0, 5)), (52, 53, (.iadd, 1), (0, 0, 0, 0)), (53, 56, (.goto 4, 3), (57, 0, 0, 0)), (56, 57, (.iload_n 3, 1), (3, 0, 0, 0)), (57, 58, (.iastore, 1), (0, 0, 0, 0)), (58, 61, (.iinc 3 1, 3), (3, 0, 0, 0)), (61, 64, (.goto (-59), 3), (2, 0, 0, 0)), (64, 65, (.return_, 1), (0, 0, 0, 0))], [(2, [0, 1, 2, 3])], [], (0, 5), [])
def mc_X4_rowsSortedBefore : mg_C := ([(0, 1, (.aload_n 0, 1), (0, 0, 0, 0)), (1, 2, (.iload_n 1, 1), (1, 0, 0, 0)), (2, 3, (.iload_n 2, 1), (2, 0, 0, 0)), (3, 6, (.invokevirtual 142, 3), (45, 2, 0, 5)), (6, 9, (.getfield 146, 3), (3, 4, 0, 0)), (9, 11, (.istore 4, 2), (4, 0, 0, 0)), (11, 12, (.iconst 0, 1), (0, 0, 0, 0)), (12, 14, (.istore 5, 2), (5, 0, 0, 0)), (14, 15, (.aload_n 0, 1), (0, 0, 0, 0)), (15, 18, (.getfield 50, 3), (5, 2, 0, 0)), (18, 20, (.istore 6, 2), (6, 0, 0, 0)), (20, 22, (.iload 6, 2), (6, 0, 0, 0)), (22, 23, (.aload_n 0, 1), (0, 0, 0, 0)), (23, 26, (.getfield 9, 3), (5, 0, 0, 0)), (26, 29, (.if_icmp .ge 75, 3), (101, 0, 0, 0)), (29, 30, (.aload_n 0, 1), (0, 0, 0, 0)), (30, 32, (.iload 6, 2), (6, 0, 0, 0)), (32, 33, (.iload_n 2, 1), (2, 0, 0, 0)), (33, 36, (.invokevirtual 142, 3), (45, 2, 0, 5)), (36, 39, (.getfield 146, 3), (3, 4, 0, 0)), (39, 41, (.istore 7, 2), (7, 0, 0, 0)), (41, 42, (.iload_n 3, 1), (3, 0, 0, 0)), (42, 45, (.ifCond .eq 18, 3), (60, 0, 0, 0)), (45, 47, (.iload 7, 2), (7, 0, 0, 0)), (47, 49, (.iload 4, 2), (4, 0, 0, 0)), (49, 52, (.if_icmp .ge 7, 3), (56, 0, 0, 0)), (52, 53, (.iconst 1, 1), (0, 0, 0, 0)), (53, 56, (.goto 19, 3), (72, 0, 0, 0)), (56, 57, (.iconst 0, 1), (0, 0, 0, 0)), (57, 60, (.goto 15, 3), (72, 0, 0, 0)), (60, 62, (.iload 7, 2), (7, 0, 0, 0)), (62, 64, (.iload 4, 2), (4, 0, 0, 0)), (64, 67, (.if_icmp .le 7, 3), (71, 0, 0, 0)), (67, 68, (.iconst 1, 1), (0, 0, 0, 0)), (68, 71, (.goto 4, 3), (72, 0, 0, 0)), (71, 72, (.iconst 0, 1), (0, 0, 0, 0)), (72, 74, (.istore 8, 2), (8, 0, 0, 0)), (74, 76, (.iload 8, 2), (8, 0, 0, 0)), (76, 79, (.ifCond .ne 16, 3), (92, 0, 0, 0)), (79, 81, (.iload 7, 2), (7, 0, 0, 0)), (81, 83, (.iload 4, 2), (4, 0, 0, 0)), (83, 86, (.if_icmp .ne 12, 3), (95, 0, 0, 0)), (86, 88, (.iload 6, 2), (6, 0, 0, 0)), (88, 89, (.iload_n 1, 1), (1, 0, 0, 0)), (89, 92, (.if_icmp .ge 6, 3), (95, 0, 0, 0)), (92, 95, (.iinc 5 1, 3), (5, 0, 0, 0)), (95, 98, (.iinc 6 1, 3), (6, 0, 0, 0)), (98, 101, (.goto (-78), 3), (20, 0, 0, 0)), (101, 103, (.iload 5, 2), (5, 0, 0, 0)), (103, 104, (.ireturn, 1), (0, 0, 0, 0))], [(20, [0, 1, 2, 3, 4, 5, 6])], [], (1, 5), [])
def mc_X4_placeOf : mg_C := ([(0, 1, (.aload_n 0, 1), (0, 0, 0, 0)), (1, 2, (.iload_n 1, 1), (1, 0, 0, 0)), (2, 5, (.invokevirtual 63, 3), (39, 1, 0, 5)), (5, 8, (.ifCond .eq 12, 3), (17, 0, 0, 0)), (8, 9, (.aload_n 0, 1), (0, 0, 0, 0)), (9, 12, (.getfield 35, 3), (5, 7, 1, 0)), (12, 13, (.iload_n 1, 1), (1, 0, 0, 0)), (13, 14, (.iaload, 1), (8, 0, 0, 0)), (14, 17, (.goto 4, 3), (18, 0, 0, 0)), (17, 18, (.iload_n 1, 1), (1, 0, 0, 0)), (18, 19, (.ireturn, 1), (0, 0, 0, 0))], [], [], (1, 5), [])
def mc_X4_movedRows : mg_C := ([(0, 1, (.iconst 0, 1), (0, 0, 0, 0)), (1, 2, (.istore_n 1, 1), (1, 0, 0, 0)), (2, 3, (.iconst 0, 1), (0, 0, 0, 0)), (3, 4, (.istore_n 2, 1), (2, 0, 0, 0)), (4, 5, (.iload_n 2, 1), (2, 0, 0, 0)), (5, 6, (.aload_n 0, 1), (0, 0, 0, 0)), (6, 9, (.getfield 9, 3), (5, 0, 0, 0)), (9, 12, (.if_icmp .ge 21, 3), (30, 0, 0, 0)), (12, 13, (.aload_n 0, 1), (0, 0, 0, 0)), (13, 14, (.iload_n 2, 1), (2, 0, 0, 0)), (14, 17, (.invokevirtual 149, 3), (57, 1, 0, 5)), (17, 18, (.iload_n 2, 1), (2, 0, 0, 0)), (18, 21, (.if_icmp .eq 6, 3), (24, 0, 0, 0)), (21, 24, (.iinc 1 1, 3), (1, 0, 0, 0)), (24, 27, (.iinc 2 1, 3), (2, 0, 0, 0)), (27, 30, (.goto (-23), 3), (4, 0, 0, 0)), (30, 31, (.iload_n 1, 1), (1, 0, 0, 0)), (31, 32, (.ireturn, 1), (0, 0, 0, 0))], [(4, [0, 1, 2])], [], (1, 5), [])
def mc_X4_renumberRows : mg_C := ([(0, 1, (.iconst 0, 1), (0, 0, 0, 0)), (1, 2, (.istore_n 1, 1), (1, 0, 0, 0)), (2, 3, (.iload_n 1, 1), (1, 0, 0, 0)), (3, 4, (.aload_n 0, 1), (0, 0, 0, 0)), (4, 7, (.getfield 28, 3), (5, 5, 1, 0)), (7, 10, (.getfield 78, 3), (4, 0, 0, 0)), (10, 13, (.if_icmp .ge 35, 3), (45, 0, 0, 0)), (13, 14, (.aload_n 0, 1), (0, 0, 0, 0)), (14, 17, (.getfield 28, 3), (5, 5, 1, 0)), (17, 18, (.iload_n 1, 1), (1, 0, 0, 0)), (18, 21, (.invokevirtual 74, 3), (19, 1, 0, 4)), (21, 22, (.aload_n 0, 1), (0, 0, 0, 0)), (22, 23, (.aload_n 0, 1), (0, 0, 0, 0)), (23, 26, (.getfield 28, 3), (5, 5, 1, 0)), (26, 27, (.iload_n 1, 1), (1, 0, 0, 0)), (27, 30, (.invokevirtual 74, 3), (19, 1, 0, 4)), (30, 33, (.getfield 93, 3), (3, 0, 0, 0)), (33, 36, (.invokevirtual 149, 3), (57, 1, 0, 5)), (36, 39, (.putfield 93, 3), (3, 0, 0, 0)), (39, 42, (.iinc 1 1, 3), (1, 0, 0, 0)), (42, 45, (.goto (-40), 3), (2, 0, 0, 0)), (45, 46, (.aload_n 0, 1), (0, 0, 0, 0)), (46, 49, (.getfield 18, 3), (5, 3, 1, 0)), (49, 50, (.iconst 0, 1), (0, 0, 0, 0)), (50, 51, (.aload_n 0, 1), (0, 0, 0, 0)), (51, 54, (.getfield 38, 3), (5, 8, 1, 0)), (54, 55, (.iconst 0, 1), (0, 0, 0, 0)), (55, 57, (.bipush 12, 2), (0, 0, 0, 0)), (57, 60, (.invokestatic 53, 3), (1002, 0, 0, 0)), (60, 61, (.iconst 0, 1), (0, 0, 0, 0)), (61, 62, (.istore_n 1, 1), (1, 0, 0, 0)), (62, 63, (.iload_n 1, 1), (1, 0, 0, 0)), (63, 64, (.aload_n 0, 1), (0, 0, 0, 0)), (64, 67, (.getfield 9, 3), (5, 0, 0, 0)), (67, 70, (.if_icmp .ge 35, 3), (102, 0, 0, 0)), (70, 71, (.aload_n 0, 1), (0, 0, 0, 0)), (71, 72, (.iload_n 1, 1), (1, 0, 0, 0)), (72, 75, (.invokevirtual 149, 3), (57, 1, 0, 5)), (75, 76, (.istore_n 2, 1), (2, 0, 0, 0)), (76, 77, (.aload_n 0, 1), (0, 0, 0, 0)), (77, 78, (.iload_n 2, 1), (2, 0, 0, 0)), (78, 81, (.invokevirtual 63, 3), (39, 1, 0, 5)), (81, 84, (.ifCond .eq 15, 3), (96, 0, 0, 0)), (84, 85, (.aload_n 0, 1), (0, 0, 0, 0)), (85, 88, (.getfield 18, 3), (5, 3, 1, 0)), (88, 89, (.iload_n 2, 1), (2, 0, 0, 0)), (89, 90, (.aload_n 0, 1), (0, 0, 0, 0)), (90, 93, (.getfield 38, 3), (5, 8, 1, 0)), (93, 94, (.iload_n 1, 1), (1, 0, 0, 0)), (94, 95, (.iaload, 1), (8, 0, 0, 0)), (95, 96, (.iastore, 1), (0, 0, 0, 0)), (96, 99, (.iinc 1 1, 3), (1, 0, 0, 0)), (99, 102, (.goto (-37), 3), (62, 0, 0, 0)), (102, 103, (.aload_n 0, 1), (0, 0, 0, 0)), (103, 106, (.invokevirtual 47, 3), (46, 0, 0, 5)), (106, 107, (.return_, 1), (0, 0, 0, 0))], [(2, [0, 1]), (62, [0, 1])], [], (0, 5), [])
def mc_X4_growByCells : mg_C := ([(0, 1, (.iconst 0, 1), (0, 0, 0, 0)), (1, 2, (.istore_n 2, 1), (2, 0, 0, 0)), (2, 3, (.iconst 0, 1), (0, 0, 0, 0)), (3, 4, (.istore_n 3, 1), (3, 0, 0, 0)), (4, 5, (.aload_n 1, 1), (1, 0, 0, 0)), (5, 8, (.invokevirtual 153, 3), (16, 0, 0, 1)), (8, 9, (.iload_n 2, 1), (2, 0, 0, 0)), (9, 12, (.if_icmp .le 25, 3), (34, 0, 0, 0)), (12, 13, (.iload_n 3, 1), (3, 0, 0, 0)), (13, 15, (.bipush 22, 2), (0, 0, 0, 0)), (15, 18, (.if_icmp .ge 19, 3), (34, 0, 0, 0)), (18, 19, (.aload_n 1, 1), (1, 0, 0, 0)), (19, 22, (.invokevirtual 153, 3), (16, 0, 0, 1)), (22, 23, (.istore_n 2, 1), (2, 0, 0, 0)), (23, 24, (.aload_n 0, 1), (0, 0, 0, 0)), (24, 25, (.aload_n 1, 1), (1, 0, 0, 0)), (25, 28, (.invokevirtual 158, 3), (61, 1, 0, 5)), (28, 31, (.iinc 3 1, 3), (3, 0, 0, 0)), (31, 34, (.goto (-27), 3), (4, 0, 0, 0)), (34, 35, (.return_, 1), (0, 0, 0, 0))], [(4, [0, 1, 2, 3])], [], (0, 5), [])
def mc_X4_takeInCells : mg_C := ([(0, 1, (.iconst 0, 1), (0, 0, 0, 0)), (1, 2, (.istore_n 2, 1), (2, 0, 0, 0)), (2, 3, (.iload_n 2, 1), (2, 0, 0, 0)), (3, 4, (.aload_n 0, 1), (0, 0, 0, 0)), (4, 7, (.getfield 28, 3), (5, 5, 1, 0)), (7, 10, (.getfield 78, 3), (4, 0, 0, 0)), (10, 13, (.if_icmp .ge 36, 3), (46, 0, 0, 0)), (13, 14, (.aload_n 0, 1), (0, 0, 0, 0)), (14, 17, (.getfield 28, 3), (5, 5, 1, 0)), (17, 18, (.iload_n 2, 1), (2, 0, 0, 0)), (18, 21, (.invokevirtual 74, 3), (19, 1, 0, 4)), (21, 22, (.aload_n 1, 1), (1, 0, 0, 0)), (22, 25, (.invokevirtual 162, 3), (8, 1, 0, 3)), (25, 28, (.ifCond .eq 15, 3), (40, 0, 0, 0)), (28, 29, (.aload_n 1, 1), (1, 0, 0, 0)), (29, 30, (.aload_n 0, 1), (0, 0, 0, 0)), (30, 33, (.getfield 28, 3), (5, 5, 1, 0)), (33, 34, (.iload_n 2, 1), (2, 0, 0, 0)), (34, 37, (.invokevirtual 74, 3), (19, 1, 0, 4)), (37, 40, (.invokevirtual 166, 3), (17, 1, 0, 1)), (40, 43, (.iinc 2 1, 3), (2, 0, 0, 0)), (43, 46, (.goto (-41), 3), (2, 0, 0, 0)), (46, 47, (.return_, 1), (0, 0, 0, 0))], [(2, [0, 1, 2])], [], (0, 5), [])
def mc_X4_growByBorders : mg_C := ([(0, 1, (.iconst 0, 1), (0, 0, 0, 0)), (1, 2, (.istore_n 2, 1), (2, 0, 0, 0)), (2, 3, (.iconst 0, 1), (0, 0, 0, 0)), (3, 4, (.istore_n 3, 1), (3, 0, 0, 0)), (4, 5, (.aload_n 1, 1), (1, 0, 0, 0)), (5, 8, (.invokevirtual 153, 3), (16, 0, 0, 1)), (8, 9, (.iload_n 2, 1), (2, 0, 0, 0)), (9, 12, (.if_icmp .le 25, 3), (34, 0, 0, 0)), (12, 13, (.iload_n 3, 1), (3, 0, 0, 0)), (13, 15, (.bipush 22, 2), (0, 0, 0, 0)), (15, 18, (.if_icmp .ge 19, 3), (34, 0, 0, 0)), (18, 19, (.aload_n 1, 1), (1, 0, 0, 0)), (19, 22, (.invokevirtual 153, 3), (16, 0, 0, 1)), (22, 23, (.istore_n 2, 1), (2, 0, 0, 0)), (23, 24, (.aload_n 0, 1), (0, 0, 0, 0)), (24, 25, (.aload_n 1, 1), (1, 0, 0, 0)), (25, 28, (.invokevirtual 170, 3), (63, 1, 0, 5)), (28, 31, (.iinc 3 1, 3), (3, 0, 0, 0)), (31, 34, (.goto (-27), 3), (4, 0, 0, 0)), (34, 35, (.return_, 1), (0, 0, 0, 0))], [(4, [0, 1, 2, 3])], [], (0, 5), [])
def mc_X4_takeInBorders : mg_C := ([(0, 1, (.aload_n 1, 1), (1, 0, 0, 0)), (1, 4, (.getfield 173, 3), (1, 0, 0, 0)), (4, 5, (.istore_n 2, 1), (2, 0, 0, 0)), (5, 6, (.aload_n 1, 1), (1, 0, 0, 0)), (6, 9, (.getfield 174, 3), (1, 1, 0, 0)), (9, 10, (.istore_n 3, 1), (3, 0, 0, 0)), (10, 11, (.aload_n 1, 1), (1, 0, 0, 0)), (11, 14, (.getfield 175, 3), (1, 2, 0, 0)), (14, 16, (.istore 4, 2), (4, 0, 0, 0)), (16, 17, (.aload_n 1, 1), (1, 0, 0, 0)), (17, 20, (.getfield 177, 3), (1, 3, 0, 0)), (20, 22, (.istore 5, 2), (5, 0, 0, 0)), (22, 23, (.iload_n 2, 1), (2, 0, 0, 0)), (23, 25, (.istore 6, 2), (6, 0, 0, 0)), (25, 27, (.iload 6, 2), (6, 0, 0, 0)), (27, 29, (.iload 4, 2), (4, 0, 0, 0)), (29, 32, (.if_icmp .gt 32, 3), (61, 0, 0, 0)), (32, 33, (.aload_n 1, 1), (1, 0, 0, 0)), (33, 34, (.aload_n 0, 1), (0, 0, 0, 0)), (34, 36, (.iload 6, 2), (6, 0, 0, 0)), (36, 37, (.iload_n 3, 1), (3, 0, 0, 0)), (37, 40, (.invokevirtual 142, 3), (45, 2, 0, 5)), (40, 43, (.invokevirtual 166, 3), (17, 1, 0, 1)), (43, 44, (.aload_n 1, 1), (1, 0, 0, 0)), (44, 45, (.aload_n 0, 1), (0, 0, 0, 0)), (45, 47, (.iload 6, 2), (6, 0, 0, 0)), (47, 49, (.iload 5, 2), (5, 0, 0, 0)), (49, 52, (.invokevirtual 142, 3), (45, 2, 0, 5)), (52, 55, (.invokevirtual 166, 3), (17, 1, 0, 1)), (55, 58, (.iinc 6 1, 3), (6, 0, 0, 0)), (58, 61, (.goto (-33), 3), (25, 0, 0, 0)), (61, 62, (.iload_n 3, 1), (3, 0, 0, 0)), (62, 64, (.istore 6, 2), (6, 0, 0, 0)), (64, 66, (.iload 6, 2), (6, 0, 0, 0)), (66, 68, (.iload 5, 2), (5, 0, 0, 0)), (68, 71, (.if_icmp .gt 32, 3), (100, 0, 0, 0)), (71, 72, (.aload_n 1, 1), (1, 0, 0, 0)), (72, 73, (.aload_n 0, 1), (0, 0, 0, 0)), (73, 74, (.iload_n 2, 1), (2, 0, 0, 0)), (74, 76, (.iload 6, 2), (6, 0, 0, 0)), (76, 79, (.invokevirtual 142, 3), (45, 2, 0, 5)), (79, 82, (.invokevirtual 166, 3), (17, 1, 0, 1)), (82, 83, (.aload_n 1, 1), (1, 0, 0, 0)), (83, 84, (.aload_n 0, 1), (0, 0, 0, 0)), (84, 86, (.iload 4, 2), (4, 0, 0, 0)), (86, 88, (.iload 6, 2), (6, 0, 0, 0)), (88, 91, (.invokevirtual 142, 3), (45, 2, 0, 5)), (91, 94, (.invokevirtual 166, 3), (17, 1, 0, 1)), (94, 97, (.iinc 6 1, 3), (6, 0, 0, 0)), (97, 100, (.goto (-33), 3), (64, 0, 0, 0)), (100, 101, (.return_, 1), (0, 0, 0, 0))], [(25, [0, 1, 2, 3, 4, 5, 6]), (64, [0, 1, 2, 4, 5, 6])], [], (0, 5), [])
def mc_X4_join : mg_C := ([(0, 1, (.aload_n 0, 1), (0, 0, 0, 0)), (1, 4, (.getfield 28, 3), (5, 5, 1, 0)), (4, 5, (.aload_n 1, 1), (1, 0, 0, 0)), (5, 8, (.invokevirtual 179, 3), (27, 1, 0, 4)), (8, 9, (.istore_n 2, 1), (2, 0, 0, 0)), (9, 10, (.aload_n 0, 1), (0, 0, 0, 0)), (10, 11, (.aload_n 1, 1), (1, 0, 0, 0)), (11, 14, (.getfield 173, 3), (1, 0, 0, 0)), (14, 15, (.aload_n 1, 1), (1, 0, 0, 0)), (15, 18, (.getfield 174, 3), (1, 1, 0, 0)), (18, 21, (.invokevirtual 142, 3), (45, 2, 0, 5)), (21, 24, (.getfield 183, 3), (3, 5, 0, 0)), (24, 25, (.istore_n 3, 1), (3, 0, 0, 0)), (25, 26, (.aload_n 1, 1), (1, 0, 0, 0)), (26, 29, (.getfield 175, 3), (1, 2, 0, 0)), (29, 30, (.aload_n 1, 1), (1, 0, 0, 0)), (30, 33, (.getfield 173, 3), (1, 0, 0, 0)), (33, 34, (.isub, 1), (0, 0, 0, 0)), (34, 35, (.iconst 1, 1), (0, 0, 0, 0)), (35, 36, (.iadd, 1), (0, 0, 0, 0)), (36, 38, (.istore 4, 2), (4, 0, 0, 0)), (38, 39, (.aload_n 1, 1), (1, 0, 0, 0)), (39, 42, (.getfield 177, 3), (1, 3, 0, 0)), (42, 43, (.aload_n 1, 1), (1, 0, 0, 0)), (43, 46, (.getfield 174, 3), (1, 1, 0, 0)), (46, 47, (.isub, 1), (0, 0, 0, 0)), (47, 48, (.iconst 1, 1), (0, 0, 0, 0)), (48, 49, (.iadd, 1), (0, 0, 0, 0)), (49, 51, (.istore 5, 2), (5, 0, 0, 0)), (51, 52, (.aload_n 0, 1), (0, 0, 0, 0)), (52, 55, (.getfield 28, 3), (5, 5, 1, 0)), (55, 56, (.aload_n 1, 1), (1, 0, 0, 0)), (56, 59, (.invokevirtual 186, 3), (22, 1, 0, 4)), (59, 60, (.aload_n 0, 1), (0, 0, 0, 0)), (60, 63, (.getfield 28, 3), (5, 5, 1, 0)), (63, 64, (.aload_n 1, 1), (1, 0, 0, 0)), (64, 67, (.getfield 173, 3), (1, 0, 0, 0)), (67, 68, (.aload_n 1, 1), (1, 0, 0, 0)), (68, 71, (.getfield 174, 3), (1, 1, 0, 0)), (71, 73, (.iload 4, 2), (4, 0, 0, 0)), (73, 75, (.iload 5, 2), (5, 0, 0, 0)), (75, 78, (.invokevirtual 89, 3), (20, 4, 0, 4)), (78, 79, (.iload_n 2, 1), (2, 0, 0, 0)), (79, 80, (.iload_n 3, 1), (3, 0, 0, 0)), (80, 83, (.invokevirtual 189, 3), (3, 2, 0, 3)), (83, 84, (.aload_n 0, 1), (0, 0, 0, 0)), (84, 87, (.invokevirtual 47, 3), (46, 0, 0, 5)), (87, 88, (.return_, 1), (0, 0, 0, 0))], [], [], (0, 5), [])
def mc_X4_part : mg_C := ([(0, 1, (.iload_n 2, 1), (2, 0, 0, 0)), (1, 2, (.iconst 1, 1), (0, 0, 0, 0)), (2, 5, (.if_icmp .lt 8, 3), (10, 0, 0, 0)), (5, 6, (.iload_n 3, 1), (3, 0, 0, 0)), (6, 7, (.iconst 1, 1), (0, 0, 0, 0)), (7, 10, (.if_icmp .ge 4, 3), (11, 0, 0, 0)), (10, 11, (.return_, 1), (0, 0, 0, 0)), (11, 12, (.aload_n 1, 1), (1, 0, 0, 0)), (12, 15, (.getfield 192, 3), (3, 2, 0, 0)), (15, 16, (.iload_n 2, 1), (2, 0, 0, 0)), (16, 17, (.idiv, 1), (0, 0, 0, 0)), (17, 19, (.istore 4, 2), (4, 0, 0, 0)), (19, 20, (.aload_n 1, 1), (1, 0, 0, 0)), (20, 23, (.getfield 193, 3), (3, 3, 0, 0)), (23, 24, (.iload_n 3, 1), (3, 0, 0, 0)), (24, 25, (.idiv, 1), (0, 0, 0, 0)), (25, 27, (.istore 5, 2), (5, 0, 0, 0)), (27, 28, (.aload_n 1, 1), (1, 0, 0, 0)), (28, 29, (.aload_n 1, 1), (1, 0, 0, 0)), (29, 32, (.getfield 93, 3), (3, 0, 0, 0)), (32, 33, (.aload_n 1, 1), (1, 0, 0, 0)), (33, 36, (.getfield 102, 3), (3, 1, 0, 0)), (36, 38, (.iload 4, 2), (4, 0, 0, 0)), (38, 40, (.iload 5, 2), (5, 0, 0, 0)), (40, 43, (.invokevirtual 194, 3), (2, 4, 0, 3)), (43, 44, (.iconst 1, 1), (0, 0, 0, 0)), (44, 46, (.istore 6, 2), (6, 0, 0, 0)), (46, 48, (.iload 6, 2), (6, 0, 0, 0)), (48, 49, (.iload_n 2, 1), (2, 0, 0, 0)), (49, 50, (.iload_n 3, 1), (3, 0, 0, 0)), (50, 51, (.imul, 1), (0, 0, 0, 0)), (51, 54, (.if_icmp .ge 60, 3), (111, 0, 0, 0)), (54, 55, (.aload_n 1, 1), (1, 0, 0, 0)), (55, 58, (.getfield 93, 3), (3, 0, 0, 0)), (58, 60, (.iload 6, 2), (6, 0, 0, 0)), (60, 61, (.iload_n 3, 1), (3, 0, 0, 0)), (61, 62, (.idiv, 1), (0, 0, 0, 0)), (62, 64, (.iload 4, 2), (4, 0, 0, 0)), (64, 65, (.imul, 1), (0, 0, 0, 0)), (65, 66, (.iadd, 1), (0, 0, 0, 0)), (66, 68, (.istore 7, 2), (7, 0, 0, 0)), (68, 69, (.aload_n 1, 1), (1, 0, 0, 0)), (69, 72, (.getfield 102, 3), (3, 1, 0, 0)), (72, 74, (.iload 6, 2), (6, 0, 0, 0)), (74, 75, (.iload_n 3, 1), (3, 0, 0, 0)), (75, 76, (.irem, 1), (0, 0, 0, 0)), (76, 78, (.iload 5, 2), (5, 0, 0, 0)), (78, 79, (.imul, 1), (0, 0, 0, 0)), (79, 80, (.iadd, 1), (0, 0, 0, 0)), (80, 82, (.istore 8, 2), (8, 0, 0, 0)), (82, 83, (.aload_n 0, 1), (0, 0, 0, 0)), (83, 86, (.getfield 28, 3), (5, 5, 1, 0)), (86, 88, (.iload 7, 2), (7, 0, 0, 0)), (88, 90, (.iload 8, 2), (8, 0, 0, 0)), (90, 92, (.iload 4, 2), (4, 0, 0, 0)), (92, 94, (.iload 5, 2), (5, 0, 0, 0)), (94, 97, (.invokevirtual 89, 3), (20, 4, 0, 4)), (97, 98, (.iconst 0, 1), (0, 0, 0, 0)), (98, 99, (.aload_n 1, 1), (1, 0, 0, 0)), (99, 102, (.getfield 183, 3), (3, 5, 0, 0)), (102, 105, (.invokevirtual 189, 3), (3, 2, 0, 3)), (105, 108, (.iinc 6 1, 3), (6, 0, 0, 0)), (108, 111, (.goto (-62), 3), (46, 0, 0, 0)), (111, 112, (.aload_n 0, 1), (0, 0, 0, 0)), (112, 115, (.invokevirtual 47, 3), (46, 0, 0, 5)), (115, 116, (.return_, 1), (0, 0, 0, 0))], [(46, [0, 1, 2, 3, 4, 5, 6])], [], (0, 5), [])
def mc_X4_put : mg_C := ([(0, 1, (.aload_n 0, 1), (0, 0, 0, 0)), (1, 4, (.getfield 28, 3), (5, 5, 1, 0)), (4, 5, (.aload_n 2, 1), (2, 0, 0, 0)), (5, 8, (.invokevirtual 186, 3), (22, 1, 0, 4)), (8, 9, (.iconst 0, 1), (0, 0, 0, 0)), (9, 11, (.istore 5, 2), (5, 0, 0, 0)), (11, 13, (.iload 5, 2), (5, 0, 0, 0)), (13, 14, (.iload_n 3, 1), (3, 0, 0, 0)), (14, 17, (.if_icmp .ge 57, 3), (71, 0, 0, 0)), (17, 18, (.iconst 0, 1), (0, 0, 0, 0)), (18, 20, (.istore 6, 2), (6, 0, 0, 0)), (20, 22, (.iload 6, 2), (6, 0, 0, 0)), (22, 24, (.iload 4, 2), (4, 0, 0, 0)), (24, 27, (.if_icmp .ge 41, 3), (65, 0, 0, 0)), (27, 28, (.aload_n 0, 1), (0, 0, 0, 0)), (28, 29, (.aload_n 1, 1), (1, 0, 0, 0)), (29, 32, (.getfield 198, 3), (2, 2, 1, 0)), (32, 33, (.aload_n 2, 1), (2, 0, 0, 0)), (33, 36, (.getfield 173, 3), (1, 0, 0, 0)), (36, 38, (.iload 5, 2), (5, 0, 0, 0)), (38, 39, (.aload_n 1, 1), (1, 0, 0, 0)), (39, 42, (.getfield 201, 3), (2, 0, 0, 0)), (42, 43, (.imul, 1), (0, 0, 0, 0)), (43, 44, (.iadd, 1), (0, 0, 0, 0)), (44, 45, (.aload_n 2, 1), (2, 0, 0, 0)), (45, 48, (.getfield 174, 3), (1, 1, 0, 0)), (48, 50, (.iload 6, 2), (6, 0, 0, 0)), (50, 51, (.aload_n 1, 1), (1, 0, 0, 0)), (51, 54, (.getfield 202, 3), (2, 1, 0, 0)), (54, 55, (.imul, 1), (0, 0, 0, 0)), (55, 56, (.iadd, 1), (0, 0, 0, 0)), (56, 59, (.invokevirtual 203, 3), (67, 3, 0, 5)), (59, 62, (.iinc 6 1, 3), (6, 0, 0, 0)), (62, 65, (.goto (-42), 3), (20, 0, 0, 0)), (65, 68, (.iinc 5 1, 3), (5, 0, 0, 0)), (68, 71, (.goto (-57), 3), (11, 0, 0, 0)), (71, 72, (.aload_n 0, 1), (0, 0, 0, 0)), (72, 75, (.invokevirtual 47, 3), (46, 0, 0, 5)), (75, 76, (.return_, 1), (0, 0, 0, 0))], [(11, [0, 1, 2, 3, 4, 5]), (20, [0, 1, 2, 3, 4, 5, 6])], [], (0, 5), [])
def mc_X4_putOne : mg_C := ([(0, 1, (.iconst 0, 1), (0, 0, 0, 0)), (1, 3, (.istore 4, 2), (4, 0, 0, 0)), (3, 5, (.iload 4, 2), (4, 0, 0, 0)), (5, 6, (.aload_n 1, 1), (1, 0, 0, 0)), (6, 9, (.getfield 78, 3), (4, 0, 0, 0)), (9, 12, (.if_icmp .ge 61, 3), (70, 0, 0, 0)), (12, 13, (.aload_n 1, 1), (1, 0, 0, 0)), (13, 15, (.iload 4, 2), (4, 0, 0, 0)), (15, 18, (.invokevirtual 74, 3), (19, 1, 0, 4)), (18, 20, (.astore 5, 2), (5, 0, 0, 0)), (20, 21, (.aload_n 0, 1), (0, 0, 0, 0)), (21, 24, (.getfield 28, 3), (5, 5, 1, 0)), (24, 25, (.iload_n 2, 1), (2, 0, 0, 0)), (25, 27, (.aload 5, 2), (5, 0, 0, 0)), (27, 30, (.getfield 93, 3), (3, 0, 0, 0)), (30, 31, (.iadd, 1), (0, 0, 0, 0)), (31, 32, (.iload_n 3, 1), (3, 0, 0, 0)), (32, 34, (.aload 5, 2), (5, 0, 0, 0)), (34, 37, (.getfield 102, 3), (3, 1, 0, 0)), (37, 38, (.iadd, 1), (0, 0, 0, 0)), (38, 40, (.aload 5, 2), (5, 0, 0, 0)), (40, 43, (.getfield 192, 3), (3, 2, 0, 0)), (43, 45, (.aload 5, 2), (5, 0, 0, 0)), (45, 48, (.getfield 193, 3), (3, 3, 0, 0)), (48, 51, (.invokevirtual 89, 3), (20, 4, 0, 4)), (51, 53, (.aload 5, 2), (5, 0, 0, 0)), (53, 56, (.getfield 146, 3), (3, 4, 0, 0)), (56, 58, (.aload 5, 2), (5, 0, 0, 0)), (58, 61, (.getfield 183, 3), (3, 5, 0, 0)), (61, 64, (.invokevirtual 189, 3), (3, 2, 0, 3)), (64, 67, (.iinc 4 1, 3), (4, 0, 0, 0)), (67, 70, (.goto (-64), 3), (3, 0, 0, 0)), (70, 71, (.return_, 1), (0, 0, 0, 0))], [(3, [0, 1, 2, 3, 4])], [], (0, 5), [])
def mc_X4_isCoveredOnce : mg_C := ([(0, 1, (.iconst 0, 1), (0, 0, 0, 0)), (1, 2, (.istore_n 1, 1), (1, 0, 0, 0)), (2, 3, (.iconst 0, 1), (0, 0, 0, 0)), (3, 4, (.istore_n 2, 1), (2, 0, 0, 0)), (4, 5, (.iload_n 2, 1), (2, 0, 0, 0)), (5, 6, (.aload_n 0, 1), (0, 0, 0, 0)), (6, 9, (.getfield 28, 3), (5, 5, 1, 0)), (9, 12, (.getfield 78, 3), (4, 0, 0, 0)), (12, 15, (.if_icmp .ge 45, 3), (57, 0, 0, 0)), (15, 16, (.aload_n 0, 1), (0, 0, 0, 0)), (16, 17, (.iload_n 2, 1), (2, 0, 0, 0)), (17, 20, (.invokevirtual 207, 3), (69, 1, 0, 5)), (20, 23, (.ifCond .ne 5, 3), (25, 0, 0, 0)), (23, 24, (.iconst 0, 1), (0, 0, 0, 0)), (24, 25, (.ireturn, 1), (0, 0, 0, 0)), (25, 26, (.iload_n 1, 1), (1, 0, 0, 0)), (26, 27, (.aload_n 0, 1), (0, 0, 0, 0)), (27, 30, (.getfield 28, 3), (5, 5, 1, 0)), (30, 31, (.iload_n 2, 1), (2, 0, 0, 0)), (31, 34, (.invokevirtual 74, 3), (19, 1, 0, 4)), (34, 37, (.getfield 192, 3), (3, 2, 0, 0)), (37, 38, (.aload_n 0, 1), (0, 0, 0, 0)), (38, 41, (.getfield 28, 3), (5, 5, 1, 0)), (41, 42, (.iload_n 2, 1), (2, 0, 0, 0)), (42, 45, (.invokevirtual 74, 3), (19, 1, 0, 4)), (45, 48, (.getfield 193, 3), (3, 3, 0, 0)), (48, 49, (.imul, 1), (0, 0, 0, 0)), (49, 50, (.iadd, 1), (0, 0, 0, 0)), (50, 51, (.istore_n 1, 1), (1, 0, 0, 0)), (51, 54, (.iinc 2 1, 3), (2, 0, 0, 0)), (54, 57, (.goto (-50), 3), (4, 0, 0, 0)), (57, 58, (.iload_n 1, 1), (1, 0, 0, 0)), (58, 59, (.aload_n 0, 1), (0, 0, 0, 0)), (59, 62, (.getfield 9, 3), (5, 0, 0, 0)), (62, 63, (.aload_n 0, 1), (0, 0, 0, 0)), (63, 66, (.getfield 15, 3), (5, 1, 0, 0)), (66, 67, (.imul, 1), (0, 0, 0, 0)), (67, 70, (.if_icmp .ne 7, 3), (74, 0, 0, 0)), (70, 71, (.iconst 1, 1), (0, 0, 0, 0)), (71, 74, (.goto 4, 3), (75, 0, 0, 0)), (74, 75, (.iconst 0, 1), (0, 0, 0, 0)), (75, 76, (.ireturn, 1), (0, 0, 0, 0))], [(4, [0, 1, 2])], [], (2, 5), [])
def mc_X4_ownsItsSquares : mg_C := ([(0, 1, (.aload_n 0, 1), (0, 0, 0, 0)), (1, 4, (.getfield 28, 3), (5, 5, 1, 0)), (4, 5, (.iload_n 1, 1), (1, 0, 0, 0)), (5, 8, (.invokevirtual 74, 3), (19, 1, 0, 4)), (8, 9, (.astore_n 2, 1), (2, 0, 0, 0)), (9, 10, (.aload_n 2, 1), (2, 0, 0, 0)), (10, 13, (.getfield 93, 3), (3, 0, 0, 0)), (13, 14, (.istore_n 3, 1), (3, 0, 0, 0)), (14, 15, (.iload_n 3, 1), (3, 0, 0, 0)), (15, 16, (.aload_n 2, 1), (2, 0, 0, 0)), (16, 19, (.invokevirtual 98, 3), (5, 0, 0, 3)), (19, 22, (.if_icmp .gt 43, 3), (62, 0, 0, 0)), (22, 23, (.aload_n 2, 1), (2, 0, 0, 0)), (23, 26, (.getfield 102, 3), (3, 1, 0, 0)), (26, 28, (.istore 4, 2), (4, 0, 0, 0)), (28, 30, (.iload 4, 2), (4, 0, 0, 0)), (30, 31, (.aload_n 2, 1), (2, 0, 0, 0)), (31, 34, (.invokevirtual 105, 3), (6, 0, 0, 3)), (34, 37, (.if_icmp .gt 22, 3), (56, 0, 0, 0)), (37, 38, (.aload_n 0, 1), (0, 0, 0, 0)), (38, 39, (.iload_n 3, 1), (3, 0, 0, 0)), (39, 41, (.iload 4, 2), (4, 0, 0, 0)), (41, 44, (.invokevirtual 70, 3), (43, 2, 0, 5)), (44, 45, (.iload_n 1, 1), (1, 0, 0, 0)), (45, 48, (.if_icmp .eq 5, 3), (50, 0, 0, 0)), (48, 49, (.iconst 0, 1), (0, 0, 0, 0)), (49, 50, (.ireturn, 1), (0, 0, 0, 0)), (50, 53, (.iinc 4 1, 3), (4, 0, 0, 0)), (53, 56, (.goto (-25), 3), (28, 0, 0, 0)), (56, 59, (.iinc 3 1, 3), (3, 0, 0, 0)), (59, 62, (.goto (-45), 3), (14, 0, 0, 0)), (62, 63, (.iconst 1, 1), (0, 0, 0, 0)), (63, 64, (.ireturn, 1), (0, 0, 0, 0))], [(14, [0, 1, 2, 3]), (28, [0, 1, 2, 3, 4])], [], (2, 5), [])
def mc_J7_fill_53178 : mg_C := ([(0, 1, (.iconst 0, 1), (0, 0, 0, 0)), (1, 2, (.istore_n 2, 1), (2, 0, 0, 0)), (2, 3, (.aload_n 0, 1), (0, 0, 0, 0)), (3, 4, (.arraylength, 1), (8, 0, 0, 0)), (4, 5, (.istore_n 3, 1), (3, 0, 0, 0)), (5, 6, (.iload_n 2, 1), (2, 0, 0, 0)), (6, 7, (.iload_n 3, 1), (3, 0, 0, 0)), (7, 10, (.if_icmp .ge 13, 3), (20, 0, 0, 0)), (10, 11, (.aload_n 0, 1), (0, 0, 0, 0)), (11, 12, (.iload_n 2, 1), (2, 0, 0, 0)), (12, 13, (.iload_n 1, 1), (1, 0, 0, 0)), (13, 14, (.iastore, 1), (0, 0, 0, 0)), (14, 17, (.iinc 2 1, 3), (2, 0, 0, 0)), (17, 20, (.goto (-12), 3), (5, 0, 0, 0)), (20, 21, (.return_, 1), (0, 0, 0, 0))], [(5, [0, 1, 2, 3])], [], (0, 8), [])
def mc_X5_init : mg_C := ([(0, 1, (.aload_n 0, 1), (0, 0, 0, 0)), (1, 4, (.invokespecial 3, 3), (0, 0, 0, 0)), (4, 5, (.aload_n 0, 1), (0, 0, 0, 0)), (5, 8, (.new 9, 3), (5, 0, 0, 0)), (8, 9, (.dup, 1), (0, 0, 0, 0)), (9, 12, (.invokespecial 11, 3), (38, 0, 135, 0)), (12, 15, (.putfield 12, 3), (6, 0, 1, 0)), (15, 16, (.aload_n 0, 1), (0, 0, 0, 0)), (16, 19, (.new 9, 3), (5, 0, 0, 0)), (19, 20, (.dup, 1), (0, 0, 0, 0)), (20, 23, (.invokespecial 11, 3), (38, 0, 135, 0)), (23, 26, (.putfield 16, 3), (6, 1, 1, 0)), (26, 27, (.aload_n 0, 1), (0, 0, 0, 0)), (27, 30, (.new 19, 3), (1, 0, 0, 0)), (30, 31, (.dup, 1), (0, 0, 0, 0)), (31, 34, (.invokespecial 21, 3), (14, 0, 0, 1)), (34, 37, (.putfield 22, 3), (6, 3, 1, 1)), (37, 38, (.aload_n 0, 1), (0, 0, 0, 0)), (38, 41, (.new 19, 3), (1, 0, 0, 0)), (41, 42, (.dup, 1), (0, 0, 0, 0)), (42, 45, (.invokespecial 21, 3), (14, 0, 0, 1)), (45, 48, (.putfield 26, 3), (6, 4, 1, 1)), (48, 49, (.aload_n 0, 1), (0, 0, 0, 0)), (49, 52, (.new 29, 3), (2, 0, 0, 0)), (52, 53, (.dup, 1), (0, 0, 0, 0)), (53, 56, (.invokespecial 31, 3), (34, 0, 126, 1)), (56, 59, (.putfield 32, 3), (6, 5, 1, 1)), (59, 60, (.return_, 1), (0, 0, 0, 0))], [], [], (0, 6), [])
def mc_X5_rows : mg_C := ([(0, 1, (.aload_n 0, 1), (0, 0, 0, 0)), (1, 4, (.getfield 12, 3), (6, 0, 1, 0)), (4, 7, (.getfield 36, 3), (5, 0, 0, 0)), (7, 8, (.ireturn, 1), (0, 0, 0, 0))], [], [], (1, 6), [])
def mc_X5_columns : mg_C := ([(0, 1, (.aload_n 0, 1), (0, 0, 0, 0)), (1, 4, (.getfield 12, 3), (6, 0, 1, 0)), (4, 7, (.getfield 40, 3), (5, 1, 0, 0)), (7, 8, (.ireturn, 1), (0, 0, 0, 0))], [], [], (1, 6), [])
def mc_X5_cellCount : mg_C := ([(0, 1, (.aload_n 0, 1), (0, 0, 0, 0)), (1, 4, (.getfield 12, 3), (6, 0, 1, 0)), (4, 7, (.getfield 43, 3), (5, 5, 1, 0)), (7, 10, (.getfield 47, 3), (4, 0, 0, 0)), (10, 11, (.ireturn, 1), (0, 0, 0, 0))], [], [], (1, 6), [])
def mc_X5_cellsBySquares : mg_C := ([(0, 1, (.iconst 0, 1), (0, 0, 0, 0)), (1, 2, (.istore_n 1, 1), (1, 0, 0, 0)), (2, 3, (.iconst 0, 1), (0, 0, 0, 0)), (3, 4, (.istore_n 2, 1), (2, 0, 0, 0)), (4, 5, (.iload_n 2, 1), (2, 0, 0, 0)), (5, 6, (.aload_n 0, 1), (0, 0, 0, 0)), (6, 9, (.getfield 12, 3), (6, 0, 1, 0)), (9, 12, (.getfield 36, 3), (5, 0, 0, 0)), (12, 15, (.if_icmp .ge 60, 3), (72, 0, 0, 0)), (15, 16, (.iconst 0, 1), (0, 0, 0, 0)), (16, 17, (.istore_n 3, 1), (3, 0, 0, 0)), (17, 18, (.iload_n 3, 1), (3, 0, 0, 0)), (18, 19, (.aload_n 0, 1), (0, 0, 0, 0)), (19, 22, (.getfield 12, 3), (6, 0, 1, 0)), (22, 25, (.getfield 40, 3), (5, 1, 0, 0)), (25, 28, (.if_icmp .ge 41, 3), (66, 0, 0, 0)), (28, 29, (.aload_n 0, 1), (0, 0, 0, 0)), (29, 32, (.getfield 12, 3), (6, 0, 1, 0)), (32, 33, (.iload_n 2, 1), (2, 0, 0, 0)), (33, 34, (.iload_n 3, 1), (3, 0, 0, 0)), (34, 37, (.invokevirtual 52, 3), (45, 2, 0, 5)), (37, 39, (.astore 4, 2), (4, 0, 0, 0)), (39, 41, (.aload 4, 2), (4, 0, 0, 0)), (41, 44, (.getfield 56, 3), (3, 0, 0, 0)), (44, 45, (.iload_n 2, 1), (2, 0, 0, 0)), (45, 48, (.if_icmp .ne 15, 3), (60, 0, 0, 0)), (48, 50, (.aload 4, 2), (4, 0, 0, 0)), (50, 53, (.getfield 61, 3), (3, 1, 0, 0)), (53, 54, (.iload_n 3, 1), (3, 0, 0, 0)), (54, 57, (.if_icmp .ne 6, 3), (60, 0, 0, 0)), (57, 60, (.iinc 1 1, 3), (1, 0, 0, 0)), (60, 63, (.iinc 3 1, 3), (3, 0, 0, 0)), (63, 66, (.goto (-46), 3), (17, 0, 0, 0)), (66, 69, (.iinc 2 1, 3), (2, 0, 0, 0)), (69, 72, (.goto (-65), 3), (4, 0, 0, 0)), (72, 73, (.iload_n 1, 1), (1, 0, 0, 0)), (73, 74, (.ireturn, 1), (0, 0, 0, 0))], [(4, [0, 1, 2]), (17, [0, 1, 2, 3])], [], (1, 6), [])
def mc_X5_insertRow : mg_C := ([(0, 1, (.iload_n 1, 1), (1, 0, 0, 0)), (1, 4, (.ifCond .lt 14, 3), (15, 0, 0, 0)), (4, 5, (.iload_n 1, 1), (1, 0, 0, 0)), (5, 6, (.aload_n 0, 1), (0, 0, 0, 0)), (6, 9, (.getfield 12, 3), (6, 0, 1, 0)), (9, 12, (.getfield 36, 3), (5, 0, 0, 0)), (12, 15, (.if_icmp .le 13, 3), (25, 0, 0, 0)), (15, 18, (.new 64, 3), (101, 66, 68, 0)), (25, 26, (.aload_n 0, 1), (0, 0, 0, 0)), (26, 29, (.getfield 12, 3), (6, 0, 1, 0)), (29, 32, (.getfield 36, 3), (5, 0, 0, 0)), (32, 34, (.bipush 12, 2), (0, 0, 0, 0)), (34, 37, (.if_icmp .lt 13, 3), (47, 0, 0, 0)), (37, 40, (.new 71, 3), (102, 73, 75, 0)), (47, 48, (.aload_n 0, 1), (0, 0, 0, 0)), (48, 51, (.invokevirtual 76, 3), (119, 0, 0, 6)), (51, 52, (.aload_n 0, 1), (0, 0, 0, 0)), (52, 55, (.getfield 12, 3), (6, 0, 1, 0)), (55, 56, (.iload_n 1, 1), (1, 0, 0, 0)), (56, 59, (.invokevirtual 79, 3), (48, 1, 0, 5)), (59, 60, (.aload_n 0, 1), (0, 0, 0, 0)), (60, 63, (.invokevirtual 83, 3), (120, 0, 0, 6)), (63, 64, (.aload_n 0, 1), (0, 0, 0, 0)), (64, 67, (.getfield 12, 3), (6, 0, 1, 0)), (67, 70, (.getfield 43, 3), (5, 5, 1, 0)), (70, 73, (.getfield 47, 3), (4, 0, 0, 0)), (73, 74, (.ireturn, 1), (0, 0, 0, 0))], [], [], (1, 6), [])
def mc_X5_insertColumn : mg_C := ([(0, 1, (.iload_n 1, 1), (1, 0, 0, 0)), (1, 4, (.ifCond .lt 14, 3), (15, 0, 0, 0)), (4, 5, (.iload_n 1, 1), (1, 0, 0, 0)), (5, 6, (.aload_n 0, 1), (0, 0, 0, 0)), (6, 9, (.getfield 12, 3), (6, 0, 1, 0)), (9, 12, (.getfield 40, 3), (5, 1, 0, 0)), (12, 15, (.if_icmp .le 13, 3), (25, 0, 0, 0)), (15, 18, (.new 64, 3), (101, 86, 68, 0)), (25, 26, (.aload_n 0, 1), (0, 0, 0, 0)), (26, 29, (.getfield 12, 3), (6, 0, 1, 0)), (29, 32, (.getfield 40, 3), (5, 1, 0, 0)), (32, 34, (.bipush 10, 2), (0, 0, 0, 0)), (34, 37, (.if_icmp .lt 13, 3), (47, 0, 0, 0)), (37, 40, (.new 71, 3), (102, 88, 75, 0)), (47, 48, (.aload_n 0, 1), (0, 0, 0, 0)), (48, 51, (.invokevirtual 76, 3), (119, 0, 0, 6)), (51, 52, (.aload_n 0, 1), (0, 0, 0, 0)), (52, 55, (.getfield 12, 3), (6, 0, 1, 0)), (55, 56, (.iload_n 1, 1), (1, 0, 0, 0)), (56, 59, (.invokevirtual 90, 3), (49, 1, 0, 5)), (59, 60, (.aload_n 0, 1), (0, 0, 0, 0)), (60, 63, (.invokevirtual 83, 3), (120, 0, 0, 6)), (63, 64, (.aload_n 0, 1), (0, 0, 0, 0)), (64, 67, (.getfield 12, 3), (6, 0, 1, 0)), (67, 70, (.getfield 43, 3), (5, 5, 1, 0)), (70, 73, (.getfield 47, 3), (4, 0, 0, 0)), (73, 74, (.ireturn, 1), (0, 0, 0, 0))], [], [], (1, 6), [])
def mc_X5_deleteRow : mg_C := ([(0, 1, (.aload_n 0, 1), (0, 0, 0, 0)), (1, 2, (.iload_n 1, 1), (1, 0, 0, 0)), (2, 5, (.invokevirtual 93, 3), (114, 1, 1, 6)), (5, 6, (.aload_n 0, 1), (0, 0, 0, 0)), (6, 9, (.getfield 12, 3), (6, 0, 1, 0)), (9, 12, (.getfield 36, 3), (5, 0, 0, 0)), (12, 13, (.iconst 1, 1), (0, 0, 0, 0)), (13, 16, (.if_icmp .ne 13, 3), (26, 0, 0, 0)), (16, 19, (.new 71, 3), (102, 96, 75, 0)), (26, 27, (.aload_n 0, 1), (0, 0, 0, 0)), (27, 30, (.invokevirtual 76, 3), (119, 0, 0, 6)), (30, 31, (.aload_n 0, 1), (0, 0, 0, 0)), (31, 34, (.getfield 12, 3), (6, 0, 1, 0)), (34, 35, (.iload_n 1, 1), (1, 0, 0, 0)), (35, 38, (.invokevirtual 98, 3), (50, 1, 0, 5)), (38, 39, (.aload_n 0, 1), (0, 0, 0, 0)), (39, 42, (.invokevirtual 83, 3), (120, 0, 0, 6)), (42, 43, (.aload_n 0, 1), (0, 0, 0, 0)), (43, 46, (.getfield 16, 3), (6, 1, 1, 0)), (46, 49, (.getfield 43, 3), (5, 5, 1, 0)), (49, 52, (.getfield 47, 3), (4, 0, 0, 0)), (52, 53, (.aload_n 0, 1), (0, 0, 0, 0)), (53, 56, (.getfield 12, 3), (6, 0, 1, 0)), (56, 59, (.getfield 43, 3), (5, 5, 1, 0)), (59, 62, (.getfield 47, 3), (4, 0, 0, 0)), (62, 63, (.isub, 1), (0, 0, 0, 0)), (63, 64, (.ireturn, 1), (0, 0, 0, 0))], [], [], (1, 6), [])
def mc_X5_deleteColumn : mg_C := ([(0, 1, (.aload_n 0, 1), (0, 0, 0, 0)), (1, 2, (.iload_n 1, 1), (1, 0, 0, 0)), (2, 5, (.invokevirtual 101, 3), (115, 1, 1, 6)), (5, 6, (.aload_n 0, 1), (0, 0, 0, 0)), (6, 9, (.getfield 12, 3), (6, 0, 1, 0)), (9, 12, (.getfield 40, 3), (5, 1, 0, 0)), (12, 13, (.iconst 1, 1), (0, 0, 0, 0)), (13, 16, (.if_icmp .ne 13, 3), (26, 0, 0, 0)), (16, 19, (.new 71, 3), (102, 104, 75, 0)), (26, 27, (.aload_n 0, 1), (0, 0, 0, 0)), (27, 30, (.invokevirtual 76, 3), (119, 0, 0, 6)), (30, 31, (.aload_n 0, 1), (0, 0, 0, 0)), (31, 34, (.getfield 12, 3), (6, 0, 1, 0)), (34, 35, (.iload_n 1, 1), (1, 0, 0, 0)), (35, 38, (.invokevirtual 106, 3), (51, 1, 0, 5)), (38, 39, (.aload_n 0, 1), (0, 0, 0, 0)), (39, 42, (.invokevirtual 83, 3), (120, 0, 0, 6)), (42, 43, (.aload_n 0, 1), (0, 0, 0, 0)), (43, 46, (.getfield 16, 3), (6, 1, 1, 0)), (46, 49, (.getfield 43, 3), (5, 5, 1, 0)), (49, 52, (.getfield 47, 3), (4, 0, 0, 0)), (52, 53, (.aload_n 0, 1), (0, 0, 0, 0)), (53, 56, (.getfield 12, 3), (6, 0, 1, 0)), (56, 59, (.getfield 43, 3), (5, 5, 1, 0)), (59, 62, (.getfield 47, 3), (4, 0, 0, 0)), (62, 63, (.isub, 1), (0, 0, 0, 0)), (63, 64, (.ireturn, 1), (0, 0, 0, 0))], [], [], (1, 6), [])
def mc_X5_moveRow : mg_C := ([(0, 1, (.aload_n 0, 1), (0, 0, 0, 0)), (1, 2, (.iload_n 1, 1), (1, 0, 0, 0)), (2, 5, (.invokevirtual 93, 3), (114, 1, 1, 6)), (5, 6, (.aload_n 0, 1), (0, 0, 0, 0)), (6, 7, (.iload_n 2, 1), (2, 0, 0, 0)), (7, 10, (.invokevirtual 93, 3), (114, 1, 1, 6)), (10, 11, (.iload_n 1, 1), (1, 0, 0, 0)), (11, 12, (.iload_n 2, 1), (2, 0, 0, 0)), (12, 15, (.if_icmp .ne 13, 3), (25, 0, 0, 0)), (15, 18, (.new 109, 3), (103, 111, 113, 0)), (25, 26, (.aload_n 0, 1), (0, 0, 0, 0)), (26, 29, (.getfield 12, 3), (6, 0, 1, 0)), (29, 30, (.iload_n 1, 1), (1, 0, 0, 0)), (30, 33, (.invokevirtual 114, 3), (41, 1, 0, 5)), (33, 34, (.aload_n 0, 1), (0, 0, 0, 0)), (34, 37, (.getfield 12, 3), (6, 0, 1, 0)), (37, 38, (.iload_n 2, 1), (2, 0, 0, 0)), (38, 41, (.invokevirtual 114, 3), (41, 1, 0, 5)), (41, 44, (.if_icmp .eq 13, 3), (54, 0, 0, 0)), (44, 47, (.new 118, 3), (104, 120, 122, 0)), (54, 55, (.aload_n 0, 1), (0, 0, 0, 0)), (55, 58, (.getfield 12, 3), (6, 0, 1, 0)), (58, 61, (.getfield 43, 3), (5, 5, 1, 0)), (61, 62, (.iload_n 1, 1), (1, 0, 0, 0)), (62, 63, (.iload_n 2, 1), (2, 0, 0, 0)), (63, 66, (.invokestatic 123, 3), (1001, 0, 0, 0)), (66, 67, (.iload_n 1, 1), (1, 0, 0, 0)), (67, 68, (.iload_n 2, 1), (2, 0, 0, 0)), (68, 71, (.invokestatic 129, 3), (1000, 0, 0, 0)), (71, 74, (.invokevirtual 132, 3), (32, 2, 0, 4)), (74, 77, (.ifCond .eq 13, 3), (87, 0, 0, 0)), (77, 80, (.new 118, 3), (104, 136, 122, 0)), (87, 88, (.aload_n 0, 1), (0, 0, 0, 0)), (88, 91, (.invokevirtual 76, 3), (119, 0, 0, 6)), (91, 92, (.aload_n 0, 1), (0, 0, 0, 0)), (92, 95, (.getfield 12, 3), (6, 0, 1, 0)), (95, 96, (.iload_n 1, 1), (1, 0, 0, 0)), (96, 97, (.iload_n 2, 1), (2, 0, 0, 0)), (97, 100, (.invokevirtual 138, 3), (54, 2, 0, 5)), (100, 101, (.aload_n 0, 1), (0, 0, 0, 0)), (101, 104, (.getfield 12, 3), (6, 0, 1, 0)), (104, 107, (.invokevirtual 142, 3), (59, 0, 0, 5)), (107, 108, (.aload_n 0, 1), (0, 0, 0, 0)), (108, 111, (.invokevirtual 83, 3), (120, 0, 0, 6)), (111, 112, (.aload_n 0, 1), (0, 0, 0, 0)), (112, 115, (.getfield 12, 3), (6, 0, 1, 0)), (115, 118, (.invokevirtual 145, 3), (58, 0, 0, 5)), (118, 119, (.ireturn, 1), (0, 0, 0, 0))], [], [], (1, 6), [])
def mc_X5_topOf : mg_C := ([(0, 1, (.aload_n 0, 1), (0, 0, 0, 0)), (1, 2, (.iload_n 1, 1), (1, 0, 0, 0)), (2, 3, (.iload_n 2, 1), (2, 0, 0, 0)), (3, 6, (.invokevirtual 149, 3), (116, 2, 2, 6)), (6, 7, (.aload_n 0, 1), (0, 0, 0, 0)), (7, 10, (.getfield 12, 3), (6, 0, 1, 0)), (10, 11, (.iload_n 1, 1), (1, 0, 0, 0)), (11, 12, (.iload_n 2, 1), (2, 0, 0, 0)), (12, 15, (.invokevirtual 52, 3), (45, 2, 0, 5)), (15, 18, (.getfield 56, 3), (3, 0, 0, 0)), (18, 19, (.ireturn, 1), (0, 0, 0, 0))], [], [], (1, 6), [])
def mc_X5_leftOf : mg_C := ([(0, 1, (.aload_n 0, 1), (0, 0, 0, 0)), (1, 2, (.iload_n 1, 1), (1, 0, 0, 0)), (2, 3, (.iload_n 2, 1), (2, 0, 0, 0)), (3, 6, (.invokevirtual 149, 3), (116, 2, 2, 6)), (6, 7, (.aload_n 0, 1), (0, 0, 0, 0)), (7, 10, (.getfield 12, 3), (6, 0, 1, 0)), (10, 11, (.iload_n 1, 1), (1, 0, 0, 0)), (11, 12, (.iload_n 2, 1), (2, 0, 0, 0)), (12, 15, (.invokevirtual 52, 3), (45, 2, 0, 5)), (15, 18, (.getfield 61, 3), (3, 1, 0, 0)), (18, 19, (.ireturn, 1), (0, 0, 0, 0))], [], [], (1, 6), [])
def mc_X5_rowsOf : mg_C := ([(0, 1, (.aload_n 0, 1), (0, 0, 0, 0)), (1, 2, (.iload_n 1, 1), (1, 0, 0, 0)), (2, 3, (.iload_n 2, 1), (2, 0, 0, 0)), (3, 6, (.invokevirtual 149, 3), (116, 2, 2, 6)), (6, 7, (.aload_n 0, 1), (0, 0, 0, 0)), (7, 10, (.getfield 12, 3), (6, 0, 1, 0)), (10, 11, (.iload_n 1, 1), (1, 0, 0, 0)), (11, 12, (.iload_n 2, 1), (2, 0, 0, 0)), (12, 15, (.invokevirtual 52, 3), (45, 2, 0, 5)), (15, 18, (.getfield 152, 3), (3, 2, 0, 0)), (18, 19, (.ireturn, 1), (0, 0, 0, 0))], [], [], (1, 6), [])
def mc_X5_columnsOf : mg_C := ([(0, 1, (.aload_n 0, 1), (0, 0, 0, 0)), (1, 2, (.iload_n 1, 1), (1, 0, 0, 0)), (2, 3, (.iload_n 2, 1), (2, 0, 0, 0)), (3, 6, (.invokevirtual 149, 3), (116, 2, 2, 6)), (6, 7, (.aload_n 0, 1), (0, 0, 0, 0)), (7, 10, (.getfield 12, 3), (6, 0, 1, 0)), (10, 11, (.iload_n 1, 1), (1, 0, 0, 0)), (11, 12, (.iload_n 2, 1), (2, 0, 0, 0)), (12, 15, (.invokevirtual 52, 3), (45, 2, 0, 5)), (15, 18, (.getfield 153, 3), (3, 3, 0, 0)), (18, 19, (.ireturn, 1), (0, 0, 0, 0))], [], [], (1, 6), [])
def mc_X5_contentAt : mg_C := ([(0, 1, (.aload_n 0, 1), (0, 0, 0, 0)), (1, 2, (.iload_n 1, 1), (1, 0, 0, 0)), (2, 3, (.iload_n 2, 1), (2, 0, 0, 0)), (3, 6, (.invokevirtual 149, 3), (116, 2, 2, 6)), (6, 7, (.aload_n 0, 1), (0, 0, 0, 0)), (7, 10, (.getfield 12, 3), (6, 0, 1, 0)), (10, 11, (.iload_n 1, 1), (1, 0, 0, 0)), (11, 12, (.iload_n 2, 1), (2, 0, 0, 0)), (12, 15, (.invokevirtual 52, 3), (45, 2, 0, 5)), (15, 18, (.getfield 154, 3), (3, 4, 0, 0)), (18, 19, (.ireturn, 1), (0, 0, 0, 0))], [], [], (1, 6), [])
def mc_X5_styleAt : mg_C := ([(0, 1, (.aload_n 0, 1), (0, 0, 0, 0)), (1, 2, (.iload_n 1, 1), (1, 0, 0, 0)), (2, 3, (.iload_n 2, 1), (2, 0, 0, 0)), (3, 6, (.invokevirtual 149, 3), (116, 2, 2, 6)), (6, 7, (.aload_n 0, 1), (0, 0, 0, 0)), (7, 10, (.getfield 12, 3), (6, 0, 1, 0)), (10, 11, (.iload_n 1, 1), (1, 0, 0, 0)), (11, 12, (.iload_n 2, 1), (2, 0, 0, 0)), (12, 15, (.invokevirtual 52, 3), (45, 2, 0, 5)), (15, 18, (.getfield 157, 3), (3, 5, 0, 0)), (18, 19, (.ireturn, 1), (0, 0, 0, 0))], [], [], (1, 6), [])
def mc_X5_setContent : mg_C := ([(0, 1, (.aload_n 0, 1), (0, 0, 0, 0)), (1, 2, (.iload_n 1, 1), (1, 0, 0, 0)), (2, 3, (.iload_n 2, 1), (2, 0, 0, 0)), (3, 6, (.invokevirtual 149, 3), (116, 2, 2, 6)), (6, 7, (.iload_n 3, 1), (3, 0, 0, 0)), (7, 10, (.ifCond .lt 10, 3), (17, 0, 0, 0)), (10, 11, (.iload_n 3, 1), (3, 0, 0, 0)), (11, 14, (.sipush 999, 3), (0, 0, 0, 0)), (14, 17, (.if_icmp .le 13, 3), (27, 0, 0, 0)), (17, 20, (.new 109, 3), (103, 160, 113, 0)), (27, 28, (.aload_n 0, 1), (0, 0, 0, 0)), (28, 31, (.invokevirtual 76, 3), (119, 0, 0, 6)), (31, 32, (.aload_n 0, 1), (0, 0, 0, 0)), (32, 35, (.getfield 12, 3), (6, 0, 1, 0)), (35, 36, (.iload_n 1, 1), (1, 0, 0, 0)), (36, 37, (.iload_n 2, 1), (2, 0, 0, 0)), (37, 40, (.invokevirtual 52, 3), (45, 2, 0, 5)), (40, 42, (.astore 4, 2), (4, 0, 0, 0)), (42, 44, (.aload 4, 2), (4, 0, 0, 0)), (44, 47, (.getfield 154, 3), (3, 4, 0, 0)), (47, 49, (.istore 5, 2), (5, 0, 0, 0)), (49, 51, (.aload 4, 2), (4, 0, 0, 0)), (51, 52, (.iload_n 3, 1), (3, 0, 0, 0)), (52, 55, (.putfield 154, 3), (3, 4, 0, 0)), (55, 57, (.iload 5, 2), (5, 0, 0, 0)), (57, 58, (.ireturn, 1), (0, 0, 0, 0))], [], [], (1, 6), [])
def mc_X5_setStyle : mg_C := ([(0, 1, (.iload_n 1, 1), (1, 0, 0, 0)), (1, 4, (.ifCond .lt 9, 3), (10, 0, 0, 0)), (4, 5, (.iload_n 1, 1), (1, 0, 0, 0)), (5, 7, (.bipush 9, 2), (0, 0, 0, 0)), (7, 10, (.if_icmp .le 13, 3), (20, 0, 0, 0)), (10, 13, (.new 109, 3), (103, 162, 113, 0)), (20, 21, (.aload_n 0, 1), (0, 0, 0, 0)), (21, 24, (.invokevirtual 76, 3), (119, 0, 0, 6)), (24, 25, (.aload_n 0, 1), (0, 0, 0, 0)), (25, 28, (.getfield 12, 3), (6, 0, 1, 0)), (28, 31, (.getfield 43, 3), (5, 5, 1, 0)), (31, 32, (.aload_n 0, 1), (0, 0, 0, 0)), (32, 35, (.getfield 22, 3), (6, 3, 1, 0)), (35, 36, (.iload_n 1, 1), (1, 0, 0, 0)), (36, 39, (.invokevirtual 164, 3), (29, 2, 0, 4)), (39, 40, (.ireturn, 1), (0, 0, 0, 0))], [], [], (1, 6), [])
def mc_X5_select : mg_C := ([(0, 1, (.aload_n 0, 1), (0, 0, 0, 0)), (1, 2, (.iload_n 1, 1), (1, 0, 0, 0)), (2, 3, (.iload_n 2, 1), (2, 0, 0, 0)), (3, 6, (.invokevirtual 149, 3), (116, 2, 2, 6)), (6, 7, (.aload_n 0, 1), (0, 0, 0, 0)), (7, 8, (.iload_n 3, 1), (3, 0, 0, 0)), (8, 10, (.iload 4, 2), (4, 0, 0, 0)), (10, 13, (.invokevirtual 149, 3), (116, 2, 2, 6)), (13, 14, (.aload_n 0, 1), (0, 0, 0, 0)), (14, 17, (.getfield 22, 3), (6, 3, 1, 0)), (17, 18, (.iload_n 1, 1), (1, 0, 0, 0)), (18, 19, (.iload_n 2, 1), (2, 0, 0, 0)), (19, 20, (.iload_n 3, 1), (3, 0, 0, 0)), (20, 22, (.iload 4, 2), (4, 0, 0, 0)), (22, 25, (.invokevirtual 168, 3), (15, 4, 0, 1)), (25, 26, (.aload_n 0, 1), (0, 0, 0, 0)), (26, 29, (.getfield 12, 3), (6, 0, 1, 0)), (29, 30, (.aload_n 0, 1), (0, 0, 0, 0)), (30, 33, (.getfield 22, 3), (6, 3, 1, 0)), (33, 36, (.invokevirtual 172, 3), (60, 1, 0, 5)), (36, 37, (.aload_n 0, 1), (0, 0, 0, 0)), (37, 40, (.getfield 22, 3), (6, 3, 1, 0)), (40, 43, (.invokevirtual 176, 3), (16, 0, 0, 1)), (43, 44, (.ireturn, 1), (0, 0, 0, 0))], [], [], (1, 6), [])
def mc_X5_selected : mg_C := ([(0, 1, (.iload_n 1, 1), (1, 0, 0, 0)), (1, 3, (.bipush 116, 2), (0, 0, 0, 0)), (3, 6, (.if_icmp .ne 11, 3), (14, 0, 0, 0)), (6, 7, (.aload_n 0, 1), (0, 0, 0, 0)), (7, 10, (.getfield 22, 3), (6, 3, 1, 0)), (10, 13, (.getfield 179, 3), (1, 0, 0, 0)), (13, 14, (.ireturn, 1), (0, 0, 0, 0)), (14, 15, (.iload_n 1, 1), (1, 0, 0, 0)), (15, 17, (.bipush 98, 2), (0, 0, 0, 0)), (17, 20, (.if_icmp .ne 11, 3), (28, 0, 0, 0)), (20, 21, (.aload_n 0, 1), (0, 0, 0, 0)), (21, 24, (.getfield 22, 3), (6, 3, 1, 0)), (24, 27, (.getfield 180, 3), (1, 2, 0, 0)), (27, 28, (.ireturn, 1), (0, 0, 0, 0)), (28, 29, (.iload_n 1, 1), (1, 0, 0, 0)), (29, 31, (.bipush 108, 2), (0, 0, 0, 0)), (31, 34, (.if_icmp .ne 11, 3), (42, 0, 0, 0)), (34, 35, (.aload_n 0, 1), (0, 0, 0, 0)), (35, 38, (.getfield 22, 3), (6, 3, 1, 0)), (38, 41, (.getfield 183, 3), (1, 1, 0, 0)), (41, 42, (.ireturn, 1), (0, 0, 0, 0)), (42, 43, (.iload_n 1, 1), (1, 0, 0, 0)), (43, 45, (.bipush 114, 2), (0, 0, 0, 0)), (45, 48, (.if_icmp .ne 11, 3), (56, 0, 0, 0)), (48, 49, (.aload_n 0, 1), (0, 0, 0, 0)), (49, 52, (.getfield 22, 3), (6, 3, 1, 0)), (52, 55, (.getfield 184, 3), (1, 3, 0, 0)), (55, 56, (.ireturn, 1), (0, 0, 0, 0)), (56, 59, (.new 109, 3), (103, 187, 113, 0))], [], [], (1, 6), [])
def mc_X5_selectedCells : mg_C := ([(0, 1, (.aload_n 0, 1), (0, 0, 0, 0)), (1, 4, (.getfield 12, 3), (6, 0, 1, 0)), (4, 7, (.getfield 43, 3), (5, 5, 1, 0)), (7, 8, (.aload_n 0, 1), (0, 0, 0, 0)), (8, 11, (.getfield 22, 3), (6, 3, 1, 0)), (11, 14, (.invokevirtual 189, 3), (25, 1, 0, 4)), (14, 15, (.ireturn, 1), (0, 0, 0, 0))], [], [], (1, 6), [])
def mc_X5_squaresFor : mg_C := ([(0, 1, (.aload_n 0, 1), (0, 0, 0, 0)), (1, 2, (.iload_n 1, 1), (1, 0, 0, 0)), (2, 3, (.iload_n 2, 1), (2, 0, 0, 0)), (3, 6, (.invokevirtual 149, 3), (116, 2, 2, 6)), (6, 7, (.aload_n 0, 1), (0, 0, 0, 0)), (7, 8, (.iload_n 3, 1), (3, 0, 0, 0)), (8, 10, (.iload 4, 2), (4, 0, 0, 0)), (10, 13, (.invokevirtual 149, 3), (116, 2, 2, 6)), (13, 14, (.aload_n 0, 1), (0, 0, 0, 0)), (14, 17, (.getfield 26, 3), (6, 4, 1, 0)), (17, 18, (.iload_n 1, 1), (1, 0, 0, 0)), (18, 19, (.iload_n 2, 1), (2, 0, 0, 0)), (19, 20, (.iload_n 3, 1), (3, 0, 0, 0)), (20, 22, (.iload 4, 2), (4, 0, 0, 0)), (22, 25, (.invokevirtual 168, 3), (15, 4, 0, 1)), (25, 26, (.aload_n 0, 1), (0, 0, 0, 0)), (26, 29, (.getfield 12, 3), (6, 0, 1, 0)), (29, 30, (.aload_n 0, 1), (0, 0, 0, 0)), (30, 33, (.getfield 26, 3), (6, 4, 1, 0)), (33, 36, (.invokevirtual 193, 3), (62, 1, 0, 5)), (36, 37, (.aload_n 0, 1), (0, 0, 0, 0)), (37, 40, (.getfield 26, 3), (6, 4, 1, 0)), (40, 43, (.invokevirtual 176, 3), (16, 0, 0, 1)), (43, 44, (.ireturn, 1), (0, 0, 0, 0))], [], [], (1, 6), [])
def mc_X5_merge : mg_C := ([(0, 1, (.aload_n 0, 1), (0, 0, 0, 0)), (1, 4, (.getfield 12, 3), (6, 0, 1, 0)), (4, 7, (.getfield 43, 3), (5, 5, 1, 0)), (7, 8, (.aload_n 0, 1), (0, 0, 0, 0)), (8, 11, (.getfield 22, 3), (6, 3, 1, 0)), (11, 14, (.invokevirtual 189, 3), (25, 1, 0, 4)), (14, 15, (.istore_n 1, 1), (1, 0, 0, 0)), (15, 16, (.iload_n 1, 1), (1, 0, 0, 0)), (16, 17, (.iconst 1, 1), (0, 0, 0, 0)), (17, 20, (.if_icmp .gt 13, 3), (30, 0, 0, 0)), (20, 23, (.new 71, 3), (102, 196, 75, 0)), (30, 31, (.aload_n 0, 1), (0, 0, 0, 0)), (31, 34, (.getfield 12, 3), (6, 0, 1, 0)), (34, 37, (.getfield 43, 3), (5, 5, 1, 0)), (37, 38, (.aload_n 0, 1), (0, 0, 0, 0)), (38, 41, (.getfield 22, 3), (6, 3, 1, 0)), (41, 44, (.invokevirtual 198, 3), (26, 1, 0, 4)), (44, 45, (.iconst 1, 1), (0, 0, 0, 0)), (45, 48, (.if_icmp .le 13, 3), (58, 0, 0, 0)), (48, 51, (.new 118, 3), (104, 201, 122, 0)), (58, 59, (.aload_n 0, 1), (0, 0, 0, 0)), (59, 62, (.getfield 12, 3), (6, 0, 1, 0)), (62, 63, (.aload_n 0, 1), (0, 0, 0, 0)), (63, 66, (.getfield 22, 3), (6, 3, 1, 0)), (66, 69, (.getfield 179, 3), (1, 0, 0, 0)), (69, 72, (.invokevirtual 114, 3), (41, 1, 0, 5)), (72, 73, (.aload_n 0, 1), (0, 0, 0, 0)), (73, 76, (.getfield 12, 3), (6, 0, 1, 0)), (76, 77, (.aload_n 0, 1), (0, 0, 0, 0)), (77, 80, (.getfield 22, 3), (6, 3, 1, 0)), (80, 83, (.getfield 180, 3), (1, 2, 0, 0)), (83, 86, (.invokevirtual 114, 3), (41, 1, 0, 5)), (86, 89, (.if_icmp .eq 13, 3), (99, 0, 0, 0)), (89, 92, (.new 118, 3), (104, 203, 122, 0)), (99, 100, (.aload_n 0, 1), (0, 0, 0, 0)), (100, 103, (.invokevirtual 76, 3), (119, 0, 0, 6)), (103, 104, (.aload_n 0, 1), (0, 0, 0, 0)), (104, 107, (.getfield 12, 3), (6, 0, 1, 0)), (107, 108, (.aload_n 0, 1), (0, 0, 0, 0)), (108, 111, (.getfield 22, 3), (6, 3, 1, 0)), (111, 114, (.invokevirtual 205, 3), (64, 1, 0, 5)), (114, 115, (.iload_n 1, 1), (1, 0, 0, 0)), (115, 116, (.ireturn, 1), (0, 0, 0, 0))], [], [], (1, 6), [])
def mc_X5_split : mg_C := ([(0, 1, (.aload_n 0, 1), (0, 0, 0, 0)), (1, 2, (.iload_n 1, 1), (1, 0, 0, 0)), (2, 3, (.iload_n 2, 1), (2, 0, 0, 0)), (3, 6, (.invokevirtual 149, 3), (116, 2, 2, 6)), (6, 7, (.iload_n 3, 1), (3, 0, 0, 0)), (7, 9, (.bipush 115, 2), (0, 0, 0, 0)), (9, 12, (.if_icmp .eq 25, 3), (34, 0, 0, 0)), (12, 13, (.iload_n 3, 1), (3, 0, 0, 0)), (13, 15, (.bipush 114, 2), (0, 0, 0, 0)), (15, 18, (.if_icmp .eq 19, 3), (34, 0, 0, 0)), (18, 19, (.iload_n 3, 1), (3, 0, 0, 0)), (19, 21, (.bipush 99, 2), (0, 0, 0, 0)), (21, 24, (.if_icmp .eq 13, 3), (34, 0, 0, 0)), (24, 27, (.new 109, 3), (103, 208, 113, 0)), (34, 35, (.aload_n 0, 1), (0, 0, 0, 0)), (35, 38, (.getfield 12, 3), (6, 0, 1, 0)), (38, 39, (.iload_n 1, 1), (1, 0, 0, 0)), (39, 40, (.iload_n 2, 1), (2, 0, 0, 0)), (40, 43, (.invokevirtual 52, 3), (45, 2, 0, 5)), (43, 45, (.astore 4, 2), (4, 0, 0, 0)), (45, 46, (.iload_n 3, 1), (3, 0, 0, 0)), (46, 48, (.bipush 99, 2), (0, 0, 0, 0)), (48, 51, (.if_icmp .ne 7, 3), (55, 0, 0, 0)), (51, 52, (.iconst 1, 1), (0, 0, 0, 0)), (52, 55, (.goto 8, 3), (60, 0, 0, 0)), (55, 57, (.aload 4, 2), (4, 0, 0, 0)), (57, 60, (.getfield 152, 3), (3, 2, 0, 0)), (60, 62, (.istore 5, 2), (5, 0, 0, 0)), (62, 63, (.iload_n 3, 1), (3, 0, 0, 0)), (63, 65, (.bipush 114, 2), (0, 0, 0, 0)), (65, 68, (.if_icmp .ne 7, 3), (72, 0, 0, 0)), (68, 69, (.iconst 1, 1), (0, 0, 0, 0)), (69, 72, (.goto 8, 3), (77, 0, 0, 0)), (72, 74, (.aload 4, 2), (4, 0, 0, 0)), (74, 77, (.getfield 153, 3), (3, 3, 0, 0)), (77, 79, (.istore 6, 2), (6, 0, 0, 0)), (79, 81, (.iload 5, 2), (5, 0, 0, 0)), (81, 83, (.iload 6, 2), (6, 0, 0, 0)), (83, 84, (.imul, 1), (0, 0, 0, 0)), (84, 85, (.iconst 1, 1), (0, 0, 0, 0)), (85, 88, (.if_icmp .gt 13, 3), (98, 0, 0, 0)), (88, 91, (.new 71, 3), (102, 210, 75, 0)), (98, 99, (.aload_n 0, 1), (0, 0, 0, 0)), (99, 102, (.invokevirtual 76, 3), (119, 0, 0, 6)), (102, 103, (.aload_n 0, 1), (0, 0, 0, 0)), (103, 106, (.getfield 12, 3), (6, 0, 1, 0)), (106, 108, (.aload 4, 2), (4, 0, 0, 0)), (108, 110, (.iload 5, 2), (5, 0, 0, 0)), (110, 112, (.iload 6, 2), (6, 0, 0, 0)), (112, 115, (.invokevirtual 212, 3), (65, 3, 0, 5)), (115, 116, (.aload_n 0, 1), (0, 0, 0, 0)), (116, 119, (.invokevirtual 83, 3), (120, 0, 0, 6)), (119, 121, (.iload 5, 2), (5, 0, 0, 0)), (121, 123, (.iload 6, 2), (6, 0, 0, 0)), (123, 124, (.imul, 1), (0, 0, 0, 0)), (124, 125, (.ireturn, 1), (0, 0, 0, 0))], [], [], (1, 6), [])
def mc_X5_clear : mg_C := ([(0, 1, (.aload_n 0, 1), (0, 0, 0, 0)), (1, 4, (.getfield 12, 3), (6, 0, 1, 0)), (4, 7, (.getfield 43, 3), (5, 5, 1, 0)), (7, 8, (.aload_n 0, 1), (0, 0, 0, 0)), (8, 11, (.getfield 22, 3), (6, 3, 1, 0)), (11, 14, (.invokevirtual 198, 3), (26, 1, 0, 4)), (14, 15, (.istore_n 1, 1), (1, 0, 0, 0)), (15, 16, (.iload_n 1, 1), (1, 0, 0, 0)), (16, 19, (.ifCond .ne 13, 3), (29, 0, 0, 0)), (19, 22, (.new 71, 3), (102, 216, 75, 0)), (29, 30, (.aload_n 0, 1), (0, 0, 0, 0)), (30, 33, (.invokevirtual 76, 3), (119, 0, 0, 6)), (33, 34, (.aload_n 0, 1), (0, 0, 0, 0)), (34, 37, (.getfield 12, 3), (6, 0, 1, 0)), (37, 40, (.getfield 43, 3), (5, 5, 1, 0)), (40, 41, (.aload_n 0, 1), (0, 0, 0, 0)), (41, 44, (.getfield 22, 3), (6, 3, 1, 0)), (44, 47, (.invokevirtual 218, 3), (28, 1, 0, 4)), (47, 48, (.iload_n 1, 1), (1, 0, 0, 0)), (48, 49, (.ireturn, 1), (0, 0, 0, 0))], [], [], (1, 6), [])
def mc_X5_copy : mg_C := ([(0, 1, (.aload_n 0, 1), (0, 0, 0, 0)), (1, 4, (.getfield 32, 3), (6, 5, 1, 0)), (4, 5, (.aload_n 0, 1), (0, 0, 0, 0)), (5, 8, (.getfield 12, 3), (6, 0, 1, 0)), (8, 11, (.getfield 43, 3), (5, 5, 1, 0)), (11, 12, (.aload_n 0, 1), (0, 0, 0, 0)), (12, 15, (.getfield 22, 3), (6, 3, 1, 0)), (15, 18, (.invokevirtual 221, 3), (36, 2, 0, 2)), (18, 19, (.aload_n 0, 1), (0, 0, 0, 0)), (19, 22, (.getfield 32, 3), (6, 5, 1, 0)), (22, 25, (.getfield 225, 3), (2, 2, 1, 0)), (25, 28, (.getfield 47, 3), (4, 0, 0, 0)), (28, 29, (.ireturn, 1), (0, 0, 0, 0))], [], [], (1, 6), [])
def mc_X5_paste : mg_C := ([(0, 1, (.aload_n 0, 1), (0, 0, 0, 0)), (1, 2, (.iload_n 1, 1), (1, 0, 0, 0)), (2, 3, (.iload_n 2, 1), (2, 0, 0, 0)), (3, 6, (.invokevirtual 149, 3), (116, 2, 2, 6)), (6, 7, (.iload_n 3, 1), (3, 0, 0, 0)), (7, 10, (.invokestatic 226, 3), (117, 1, 0, 0)), (10, 13, (.ifCond .eq 11, 3), (21, 0, 0, 0)), (13, 15, (.iload 4, 2), (4, 0, 0, 0)), (15, 18, (.invokestatic 226, 3), (117, 1, 0, 0)), (18, 21, (.ifCond .ne 13, 3), (31, 0, 0, 0)), (21, 24, (.new 109, 3), (103, 229, 113, 0)), (31, 32, (.aload_n 0, 1), (0, 0, 0, 0)), (32, 35, (.getfield 32, 3), (6, 5, 1, 0)), (35, 38, (.invokevirtual 231, 3), (35, 0, 0, 2)), (38, 41, (.ifCond .eq 13, 3), (51, 0, 0, 0)), (41, 44, (.new 71, 3), (102, 235, 75, 0)), (51, 52, (.aload_n 0, 1), (0, 0, 0, 0)), (52, 55, (.getfield 26, 3), (6, 4, 1, 0)), (55, 56, (.iload_n 1, 1), (1, 0, 0, 0)), (56, 57, (.iload_n 2, 1), (2, 0, 0, 0)), (57, 58, (.iload_n 1, 1), (1, 0, 0, 0)), (58, 59, (.iload_n 3, 1), (3, 0, 0, 0)), (59, 60, (.aload_n 0, 1), (0, 0, 0, 0)), (60, 63, (.getfield 32, 3), (6, 5, 1, 0)), (63, 66, (.getfield 237, 3), (2, 0, 0, 0)), (66, 67, (.imul, 1), (0, 0, 0, 0)), (67, 68, (.iadd, 1), (0, 0, 0, 0)), (68, 69, (.iconst 1, 1), (0, 0, 0, 0)), (69, 70, (.isub, 1), (0, 0, 0, 0)), (70, 71, (.iload_n 2, 1), (2, 0, 0, 0)), (71, 73, (.iload 4, 2), (4, 0, 0, 0)), (73, 74, (.aload_n 0, 1), (0, 0, 0, 0)), (74, 77, (.getfield 32, 3), (6, 5, 1, 0)), (77, 80, (.getfield 238, 3), (2, 1, 0, 0)), (80, 81, (.imul, 1), (0, 0, 0, 0)), (81, 82, (.iadd, 1), (0, 0, 0, 0)), (82, 83, (.iconst 1, 1), (0, 0, 0, 0)), (83, 84, (.isub, 1), (0, 0, 0, 0)), (84, 87, (.invokevirtual 168, 3), (15, 4, 0, 1)), (87, 88, (.aload_n 0, 1), (0, 0, 0, 0)), (88, 91, (.getfield 26, 3), (6, 4, 1, 0)), (91, 94, (.getfield 180, 3), (1, 2, 0, 0)), (94, 95, (.aload_n 0, 1), (0, 0, 0, 0)), (95, 98, (.getfield 12, 3), (6, 0, 1, 0)), (98, 101, (.getfield 36, 3), (5, 0, 0, 0)), (101, 104, (.if_icmp .ge 20, 3), (121, 0, 0, 0)), (104, 105, (.aload_n 0, 1), (0, 0, 0, 0)), (105, 108, (.getfield 26, 3), (6, 4, 1, 0)), (108, 111, (.getfield 184, 3), (1, 3, 0, 0)), (111, 112, (.aload_n 0, 1), (0, 0, 0, 0)), (112, 115, (.getfield 12, 3), (6, 0, 1, 0)), (115, 118, (.getfield 40, 3), (5, 1, 0, 0)), (118, 121, (.if_icmp .lt 13, 3), (131, 0, 0, 0)), (121, 124, (.new 71, 3), (102, 239, 75, 0)), (131, 132, (.aload_n 0, 1), (0, 0, 0, 0)), (132, 135, (.getfield 12, 3), (6, 0, 1, 0)), (135, 138, (.getfield 43, 3), (5, 5, 1, 0)), (138, 139, (.aload_n 0, 1), (0, 0, 0, 0)), (139, 142, (.getfield 26, 3), (6, 4, 1, 0)), (142, 145, (.invokevirtual 241, 3), (30, 1, 0, 4)), (145, 148, (.ifCond .eq 13, 3), (158, 0, 0, 0)), (148, 151, (.new 118, 3), (104, 245, 122, 0)), (158, 159, (.aload_n 0, 1), (0, 0, 0, 0)), (159, 162, (.getfield 32, 3), (6, 5, 1, 0)), (162, 163, (.aload_n 0, 1), (0, 0, 0, 0)), (163, 166, (.getfield 12, 3), (6, 0, 1, 0)), (166, 169, (.getfield 247, 3), (5, 2, 0, 0)), (169, 170, (.iload_n 1, 1), (1, 0, 0, 0)), (170, 171, (.iload_n 3, 1), (3, 0, 0, 0)), (171, 174, (.invokevirtual 250, 3), (37, 3, 0, 2)), (174, 177, (.ifCond .eq 13, 3), (187, 0, 0, 0)), (177, 180, (.new 118, 3), (104, 203, 122, 0)), (187, 188, (.aload_n 0, 1), (0, 0, 0, 0)), (188, 191, (.invokevirtual 76, 3), (119, 0, 0, 6)), (191, 192, (.aload_n 0, 1), (0, 0, 0, 0)), (192, 195, (.getfield 12, 3), (6, 0, 1, 0)), (195, 196, (.aload_n 0, 1), (0, 0, 0, 0)), (196, 199, (.getfield 32, 3), (6, 5, 1, 0)), (199, 200, (.aload_n 0, 1), (0, 0, 0, 0)), (200, 203, (.getfield 26, 3), (6, 4, 1, 0)), (203, 204, (.iload_n 3, 1), (3, 0, 0, 0)), (204, 206, (.iload 4, 2), (4, 0, 0, 0)), (206, 209, (.invokevirtual 254, 3), (66, 4, 0, 5)), (209, 210, (.aload_n 0, 1), (0, 0, 0, 0)), (210, 213, (.invokevirtual 83, 3), (120, 0, 0, 6)), (213, 214, (.aload_n 0, 1), (0, 0, 0, 0)), (214, 217, (.getfield 32, 3), (6, 5, 1, 0)), (217, 220, (.getfield 225, 3), (2, 2, 1, 0)), (220, 223, (.getfield 47, 3), (4, 0, 0, 0)), (223, 224, (.iload_n 3, 1), (3, 0, 0, 0)), (224, 225, (.imul, 1), (0, 0, 0, 0)), (225, 227, (.iload 4, 2), (4, 0, 0, 0)), (227, 228, (.imul, 1), (0, 0, 0, 0)), (228, 229, (.ireturn, 1), (0, 0, 0, 0))], [], [], (1, 6), [])
def mc_X5_setHeader : mg_C := ([(0, 1, (.iload_n 1, 1), (1, 0, 0, 0)), (1, 4, (.ifCond .lt 14, 3), (15, 0, 0, 0)), (4, 5, (.iload_n 1, 1), (1, 0, 0, 0)), (5, 6, (.aload_n 0, 1), (0, 0, 0, 0)), (6, 9, (.getfield 12, 3), (6, 0, 1, 0)), (9, 12, (.getfield 36, 3), (5, 0, 0, 0)), (12, 15, (.if_icmp .le 14, 3), (26, 0, 0, 0)), (15, 18, (.new 109, 3), (103, 258, 113, 1)), (26, 27, (.aload_n 0, 1), (0, 0, 0, 0)), (27, 30, (.getfield 12, 3), (6, 0, 1, 0)), (30, 33, (.getfield 43, 3), (5, 5, 1, 0)), (33, 34, (.iload_n 1, 1), (1, 0, 0, 0)), (34, 37, (.invokevirtual 260, 3), (31, 1, 0, 4)), (37, 40, (.ifCond .eq 13, 3), (50, 0, 0, 0)), (40, 43, (.new 118, 3), (104, 203, 122, 0)), (50, 51, (.aload_n 0, 1), (0, 0, 0, 0)), (51, 54, (.invokevirtual 76, 3), (119, 0, 0, 6)), (54, 55, (.aload_n 0, 1), (0, 0, 0, 0)), (55, 58, (.getfield 12, 3), (6, 0, 1, 0)), (58, 59, (.iload_n 1, 1), (1, 0, 0, 0)), (59, 62, (.putfield 247, 3), (5, 2, 0, 0)), (62, 63, (.aload_n 0, 1), (0, 0, 0, 0)), (63, 66, (.getfield 16, 3), (6, 1, 1, 0)), (66, 69, (.getfield 247, 3), (5, 2, 0, 0)), (69, 70, (.ireturn, 1), (0, 0, 0, 0))], [], [], (1, 6), [])
def mc_X5_header : mg_C := ([(0, 1, (.aload_n 0, 1), (0, 0, 0, 0)), (1, 4, (.getfield 12, 3), (6, 0, 1, 0)), (4, 7, (.getfield 247, 3), (5, 2, 0, 0)), (7, 8, (.ireturn, 1), (0, 0, 0, 0))], [], [], (1, 6), [])
def mc_X5_sort : mg_C := ([(0, 1, (.aload_n 0, 1), (0, 0, 0, 0)), (1, 2, (.iload_n 1, 1), (1, 0, 0, 0)), (2, 5, (.invokevirtual 101, 3), (115, 1, 1, 6)), (5, 6, (.aload_n 0, 1), (0, 0, 0, 0)), (6, 9, (.getfield 12, 3), (6, 0, 1, 0)), (9, 12, (.getfield 43, 3), (5, 5, 1, 0)), (12, 13, (.aload_n 0, 1), (0, 0, 0, 0)), (13, 16, (.getfield 12, 3), (6, 0, 1, 0)), (16, 19, (.getfield 247, 3), (5, 2, 0, 0)), (19, 20, (.aload_n 0, 1), (0, 0, 0, 0)), (20, 23, (.getfield 12, 3), (6, 0, 1, 0)), (23, 26, (.getfield 36, 3), (5, 0, 0, 0)), (26, 27, (.iconst 1, 1), (0, 0, 0, 0)), (27, 28, (.isub, 1), (0, 0, 0, 0)), (28, 31, (.invokevirtual 132, 3), (32, 2, 0, 4)), (31, 34, (.ifCond .eq 13, 3), (44, 0, 0, 0)), (34, 37, (.new 118, 3), (104, 136, 122, 0)), (44, 45, (.aload_n 0, 1), (0, 0, 0, 0)), (45, 48, (.invokevirtual 76, 3), (119, 0, 0, 6)), (48, 49, (.aload_n 0, 1), (0, 0, 0, 0)), (49, 52, (.getfield 12, 3), (6, 0, 1, 0)), (52, 53, (.iload_n 1, 1), (1, 0, 0, 0)), (53, 54, (.iload_n 2, 1), (2, 0, 0, 0)), (54, 57, (.invokevirtual 262, 3), (55, 2, 0, 5)), (57, 58, (.aload_n 0, 1), (0, 0, 0, 0)), (58, 61, (.getfield 12, 3), (6, 0, 1, 0)), (61, 64, (.invokevirtual 142, 3), (59, 0, 0, 5)), (64, 65, (.aload_n 0, 1), (0, 0, 0, 0)), (65, 68, (.invokevirtual 83, 3), (120, 0, 0, 6)), (68, 69, (.aload_n 0, 1), (0, 0, 0, 0)), (69, 72, (.getfield 12, 3), (6, 0, 1, 0)), (72, 75, (.invokevirtual 145, 3), (58, 0, 0, 5)), (75, 76, (.ireturn, 1), (0, 0, 0, 0))], [], [], (1, 6), [])
def mc_X5_widthOf : mg_C := ([(0, 1, (.aload_n 0, 1), (0, 0, 0, 0)), (1, 2, (.iload_n 1, 1), (1, 0, 0, 0)), (2, 5, (.invokevirtual 101, 3), (115, 1, 1, 6)), (5, 6, (.aload_n 0, 1), (0, 0, 0, 0)), (6, 9, (.getfield 12, 3), (6, 0, 1, 0)), (9, 12, (.getfield 266, 3), (5, 4, 1, 0)), (12, 13, (.iload_n 1, 1), (1, 0, 0, 0)), (13, 14, (.iaload, 1), (8, 0, 0, 0)), (14, 15, (.ireturn, 1), (0, 0, 0, 0))], [], [], (1, 6), [])
def mc_X5_heightOf : mg_C := ([(0, 1, (.aload_n 0, 1), (0, 0, 0, 0)), (1, 2, (.iload_n 1, 1), (1, 0, 0, 0)), (2, 5, (.invokevirtual 93, 3), (114, 1, 1, 6)), (5, 6, (.aload_n 0, 1), (0, 0, 0, 0)), (6, 9, (.getfield 12, 3), (6, 0, 1, 0)), (9, 12, (.getfield 270, 3), (5, 3, 1, 0)), (12, 13, (.iload_n 1, 1), (1, 0, 0, 0)), (13, 14, (.iaload, 1), (8, 0, 0, 0)), (14, 15, (.ireturn, 1), (0, 0, 0, 0))], [], [], (1, 6), [])
def mc_X5_setWidth : mg_C := ([(0, 1, (.aload_n 0, 1), (0, 0, 0, 0)), (1, 2, (.iload_n 1, 1), (1, 0, 0, 0)), (2, 5, (.invokevirtual 101, 3), (115, 1, 1, 6)), (5, 6, (.iload_n 2, 1), (2, 0, 0, 0)), (6, 7, (.i2l, 1), (0, 0, 0, 0)), (7, 10, (.invokestatic 273, 3), (118, 1, 0, 0)), (10, 13, (.ifCond .ne 14, 3), (24, 0, 0, 0)), (13, 16, (.new 109, 3), (103, 277, 113, 1)), (24, 25, (.aload_n 0, 1), (0, 0, 0, 0)), (25, 28, (.invokevirtual 76, 3), (119, 0, 0, 6)), (28, 29, (.aload_n 0, 1), (0, 0, 0, 0)), (29, 32, (.getfield 12, 3), (6, 0, 1, 0)), (32, 35, (.getfield 266, 3), (5, 4, 1, 0)), (35, 36, (.iload_n 1, 1), (1, 0, 0, 0)), (36, 37, (.iload_n 2, 1), (2, 0, 0, 0)), (37, 38, (.iastore, 1), (0, 0, 0, 0)), (38, 39, (.aload_n 0, 1), (0, 0, 0, 0)), (39, 42, (.getfield 16, 3), (6, 1, 1, 0)), (42, 45, (.getfield 266, 3), (5, 4, 1, 0)), (45, 46, (.iload_n 1, 1), (1, 0, 0, 0)), (46, 47, (.iaload, 1), (8, 0, 0, 0)), (47, 48, (.ireturn, 1), (0, 0, 0, 0))], [], [], (1, 6), [])
def mc_X5_setHeight : mg_C := ([(0, 1, (.aload_n 0, 1), (0, 0, 0, 0)), (1, 2, (.iload_n 1, 1), (1, 0, 0, 0)), (2, 5, (.invokevirtual 93, 3), (114, 1, 1, 6)), (5, 6, (.iload_n 2, 1), (2, 0, 0, 0)), (6, 7, (.iconst 5, 1), (0, 0, 0, 0)), (7, 10, (.if_icmp .lt 9, 3), (16, 0, 0, 0)), (10, 11, (.iload_n 2, 1), (2, 0, 0, 0)), (11, 13, (.bipush 100, 2), (0, 0, 0, 0)), (13, 16, (.if_icmp .le 14, 3), (27, 0, 0, 0)), (16, 19, (.new 109, 3), (103, 279, 113, 1)), (27, 28, (.aload_n 0, 1), (0, 0, 0, 0)), (28, 31, (.invokevirtual 76, 3), (119, 0, 0, 6)), (31, 32, (.aload_n 0, 1), (0, 0, 0, 0)), (32, 35, (.getfield 12, 3), (6, 0, 1, 0)), (35, 38, (.getfield 270, 3), (5, 3, 1, 0)), (38, 39, (.iload_n 1, 1), (1, 0, 0, 0)), (39, 40, (.iload_n 2, 1), (2, 0, 0, 0)), (40, 41, (.iastore, 1), (0, 0, 0, 0)), (41, 42, (.aload_n 0, 1), (0, 0, 0, 0)), (42, 45, (.getfield 16, 3), (6, 1, 1, 0)), (45, 48, (.getfield 270, 3), (5, 3, 1, 0)), (48, 49, (.iload_n 1, 1), (1, 0, 0, 0)), (49, 50, (.iaload, 1), (8, 0, 0, 0)), (50, 51, (.ireturn, 1), (0, 0, 0, 0))], [], [], (1, 6), [])
def mc_X5_drag : mg_C := ([(0, 1, (.aload_n 0, 1), (0, 0, 0, 0)), (1, 2, (.iload_n 1, 1), (1, 0, 0, 0)), (2, 5, (.invokevirtual 101, 3), (115, 1, 1, 6)), (5, 6, (.iload_n 1, 1), (1, 0, 0, 0)), (6, 7, (.iconst 1, 1), (0, 0, 0, 0)), (7, 8, (.iadd, 1), (0, 0, 0, 0)), (8, 9, (.istore_n 3, 1), (3, 0, 0, 0)), (9, 10, (.iload_n 3, 1), (3, 0, 0, 0)), (10, 11, (.aload_n 0, 1), (0, 0, 0, 0)), (11, 14, (.getfield 12, 3), (6, 0, 1, 0)), (14, 17, (.getfield 40, 3), (5, 1, 0, 0)), (17, 20, (.if_icmp .lt 14, 3), (31, 0, 0, 0)), (20, 23, (.new 64, 3), (101, 281, 68, 1)), (31, 32, (.aload_n 0, 1), (0, 0, 0, 0)), (32, 35, (.getfield 12, 3), (6, 0, 1, 0)), (35, 38, (.getfield 266, 3), (5, 4, 1, 0)), (38, 39, (.iload_n 1, 1), (1, 0, 0, 0)), (39, 40, (.iaload, 1), (8, 0, 0, 0)), (40, 41, (.i2l, 1), (0, 0, 0, 0)), (41, 42, (.iload_n 2, 1), (2, 0, 0, 0)), (42, 43, (.i2l, 1), (0, 0, 0, 0)), (43, 44, (.ladd, 1), (0, 0, 0, 0)), (44, 46, (.lstore 4, 2), (4, 0, 0, 0)), (46, 47, (.aload_n 0, 1), (0, 0, 0, 0)), (47, 50, (.getfield 12, 3), (6, 0, 1, 0)), (50, 53, (.getfield 266, 3), (5, 4, 1, 0)), (53, 54, (.iload_n 3, 1), (3, 0, 0, 0)), (54, 55, (.iaload, 1), (8, 0, 0, 0)), (55, 56, (.i2l, 1), (0, 0, 0, 0)), (56, 57, (.iload_n 2, 1), (2, 0, 0, 0)), (57, 58, (.i2l, 1), (0, 0, 0, 0)), (58, 59, (.lsub, 1), (0, 0, 0, 0)), (59, 61, (.lstore 6, 2), (6, 0, 0, 0)), (61, 63, (.lload 4, 2), (4, 0, 0, 0)), (63, 66, (.invokestatic 273, 3), (118, 1, 0, 0)), (66, 69, (.ifCond .eq 11, 3), (77, 0, 0, 0)), (69, 71, (.lload 6, 2), (6, 0, 0, 0)), (71, 74, (.invokestatic 273, 3), (118, 1, 0, 0)), (74, 77, (.ifCond .ne 14, 3), (88, 0, 0, 0)), (77, 80, (.new 118, 3), (104, 277, 122, 1)), (88, 89, (.aload_n 0, 1), (0, 0, 0, 0)), (89, 92, (.invokevirtual 76, 3), (119, 0, 0, 6)), (92, 93, (.aload_n 0, 1), (0, 0, 0, 0)), (93, 96, (.getfield 12, 3), (6, 0, 1, 0)), (96, 99, (.getfield 266, 3), (5, 4, 1, 0)), (99, 100, (.iload_n 1, 1), (1, 0, 0, 0)), (100, 102, (.lload 4, 2), (4, 0, 0, 0)), (102, 103, (.l2i, 1), (0, 0, 0, 0)), (103, 104, (.iastore, 1), (0, 0, 0, 0)), (104, 105, (.aload_n 0, 1), (0, 0, 0, 0)), (105, 108, (.getfield 12, 3), (6, 0, 1, 0)), (108, 111, (.getfield 266, 3), (5, 4, 1, 0)), (111, 112, (.iload_n 3, 1), (3, 0, 0, 0)), (112, 114, (.lload 6, 2), (6, 0, 0, 0)), (114, 115, (.l2i, 1), (0, 0, 0, 0)), (115, 116, (.iastore, 1), (0, 0, 0, 0)), (116, 117, (.aload_n 0, 1), (0, 0, 0, 0)), (117, 120, (.getfield 12, 3), (6, 0, 1, 0)), (120, 123, (.getfield 266, 3), (5, 4, 1, 0)), (123, 124, (.iload_n 1, 1), (1, 0, 0, 0)), (124, 125, (.iaload, 1), (8, 0, 0, 0)), (125, 126, (.ireturn, 1), (0, 0, 0, 0))], [], [], (1, 6), [])
def mc_X5_even : mg_C := ([(0, 1, (.aload_n 0, 1), (0, 0, 0, 0)), (1, 2, (.iload_n 1, 1), (1, 0, 0, 0)), (2, 5, (.invokevirtual 101, 3), (115, 1, 1, 6)), (5, 6, (.aload_n 0, 1), (0, 0, 0, 0)), (6, 7, (.iload_n 2, 1), (2, 0, 0, 0)), (7, 10, (.invokevirtual 101, 3), (115, 1, 1, 6)), (10, 11, (.iload_n 2, 1), (2, 0, 0, 0)), (11, 12, (.iload_n 1, 1), (1, 0, 0, 0)), (12, 15, (.if_icmp .gt 14, 3), (26, 0, 0, 0)), (15, 18, (.new 109, 3), (103, 283, 113, 1)), (26, 27, (.aload_n 0, 1), (0, 0, 0, 0)), (27, 30, (.invokevirtual 76, 3), (119, 0, 0, 6)), (30, 31, (.iload_n 2, 1), (2, 0, 0, 0)), (31, 32, (.iload_n 1, 1), (1, 0, 0, 0)), (32, 33, (.isub, 1), (0, 0, 0, 0)), (33, 34, (.iconst 1, 1), (0, 0, 0, 0)), (34, 35, (.iadd, 1), (0, 0, 0, 0)), (35, 36, (.istore_n 3, 1), (3, 0, 0, 0)), (36, 37, (.aload_n 0, 1), (0, 0, 0, 0)), (37, 40, (.getfield 12, 3), (6, 0, 1, 0)), (40, 43, (.getfield 266, 3), (5, 4, 1, 0)), (43, 44, (.iload_n 1, 1), (1, 0, 0, 0)), (44, 45, (.iload_n 3, 1), (3, 0, 0, 0)), (45, 48, (.invokestatic 285, 3), (121, 3, 0, 0)), (48, 50, (.istore 4, 2), (4, 0, 0, 0)), (50, 51, (.iconst 0, 1), (0, 0, 0, 0)), (51, 53, (.istore 5, 2), (5, 0, 0, 0)), (53, 55, (.iload 5, 2), (5, 0, 0, 0)), (55, 56, (.iload_n 3, 1), (3, 0, 0, 0)), (56, 59, (.if_icmp .ge 40, 3), (96, 0, 0, 0)), (59, 60, (.aload_n 0, 1), (0, 0, 0, 0)), (60, 63, (.getfield 12, 3), (6, 0, 1, 0)), (63, 66, (.getfield 266, 3), (5, 4, 1, 0)), (66, 67, (.iload_n 1, 1), (1, 0, 0, 0)), (67, 69, (.iload 5, 2), (5, 0, 0, 0)), (69, 70, (.iadd, 1), (0, 0, 0, 0)), (70, 72, (.iload 4, 2), (4, 0, 0, 0)), (72, 73, (.iload_n 3, 1), (3, 0, 0, 0)), (73, 74, (.idiv, 1), (0, 0, 0, 0)), (74, 76, (.iload 5, 2), (5, 0, 0, 0)), (76, 78, (.iload 4, 2), (4, 0, 0, 0)), (78, 79, (.iload_n 3, 1), (3, 0, 0, 0)), (79, 80, (.irem, 1), (0, 0, 0, 0)), (80, 83, (.if_icmp .ge 7, 3), (87, 0, 0, 0)), (83, 84, (.iconst 1, 1), (0, 0, 0, 0)), (84, 87, (.goto 4, 3), (88, 0, 0, 0)), (87, 88, (.iconst 0, 1), (0, 0, 0, 0)), (88, 89, (.iadd, 1), (0, 0, 0, 0)), (89, 90, (.iastore, 1), (0, 0, 0, 0)), (90, 93, (.iinc 5 1, 3), (5, 0, 0, 0)), (93, 96, (.goto (-40), 3), (53, 0, 0, 0)), (96, 97, (.aload_n 0, 1), (0, 0, 0, 0)), (97, 100, (.getfield 12, 3), (6, 0, 1, 0)), (100, 103, (.getfield 266, 3), (5, 4, 1, 0)), (103, 104, (.iload_n 1, 1), (1, 0, 0, 0)), (104, 105, (.iaload, 1), (8, 0, 0, 0)), (105, 106, (.ireturn, 1), (0, 0, 0, 0))], [(53, [0, 1, 3, 4, 5])], [], (1, 6), [])
def mc_X5_sizeOf : mg_C := ([(0, 1, (.aload_n 0, 1), (0, 0, 0, 0)), (1, 2, (.iload_n 1, 1), (1, 0, 0, 0)), (2, 3, (.iload_n 2, 1), (2, 0, 0, 0)), (3, 6, (.invokevirtual 149, 3), (116, 2, 2, 6)), (6, 7, (.aload_n 0, 1), (0, 0, 0, 0)), (7, 10, (.getfield 12, 3), (6, 0, 1, 0)), (10, 11, (.iload_n 1, 1), (1, 0, 0, 0)), (11, 12, (.iload_n 2, 1), (2, 0, 0, 0)), (12, 15, (.invokevirtual 52, 3), (45, 2, 0, 5)), (15, 16, (.astore_n 3, 1), (3, 0, 0, 0)), (16, 17, (.aload_n 0, 1), (0, 0, 0, 0)), (17, 20, (.getfield 12, 3), (6, 0, 1, 0)), (20, 23, (.getfield 266, 3), (5, 4, 1, 0)), (23, 24, (.aload_n 3, 1), (3, 0, 0, 0)), (24, 27, (.getfield 61, 3), (3, 1, 0, 0)), (27, 28, (.aload_n 3, 1), (3, 0, 0, 0)), (28, 31, (.getfield 153, 3), (3, 3, 0, 0)), (31, 34, (.invokestatic 285, 3), (121, 3, 0, 0)), (34, 35, (.aload_n 0, 1), (0, 0, 0, 0)), (35, 38, (.getfield 12, 3), (6, 0, 1, 0)), (38, 41, (.getfield 270, 3), (5, 3, 1, 0)), (41, 42, (.aload_n 3, 1), (3, 0, 0, 0)), (42, 45, (.getfield 56, 3), (3, 0, 0, 0)), (45, 46, (.aload_n 3, 1), (3, 0, 0, 0)), (46, 49, (.getfield 152, 3), (3, 2, 0, 0)), (49, 52, (.invokestatic 285, 3), (121, 3, 0, 0)), (52, 53, (.imul, 1), (0, 0, 0, 0)), (53, 54, (.ireturn, 1), (0, 0, 0, 0))], [], [], (1, 6), [])
def mc_X5_cellAt : mg_C := ([(0, 1, (.aload_n 0, 1), (0, 0, 0, 0)), (1, 4, (.getfield 12, 3), (6, 0, 1, 0)), (4, 7, (.getfield 266, 3), (5, 4, 1, 0)), (7, 8, (.aload_n 0, 1), (0, 0, 0, 0)), (8, 11, (.getfield 12, 3), (6, 0, 1, 0)), (11, 14, (.getfield 40, 3), (5, 1, 0, 0)), (14, 15, (.iload_n 1, 1), (1, 0, 0, 0)), (15, 18, (.invokestatic 289, 3), (122, 3, 0, 0)), (18, 19, (.istore_n 3, 1), (3, 0, 0, 0)), (19, 20, (.aload_n 0, 1), (0, 0, 0, 0)), (20, 23, (.getfield 12, 3), (6, 0, 1, 0)), (23, 26, (.getfield 270, 3), (5, 3, 1, 0)), (26, 27, (.aload_n 0, 1), (0, 0, 0, 0)), (27, 30, (.getfield 12, 3), (6, 0, 1, 0)), (30, 33, (.getfield 36, 3), (5, 0, 0, 0)), (33, 34, (.iload_n 2, 1), (2, 0, 0, 0)), (34, 37, (.invokestatic 289, 3), (122, 3, 0, 0)), (37, 39, (.istore 4, 2), (4, 0, 0, 0)), (39, 41, (.iload 4, 2), (4, 0, 0, 0)), (41, 44, (.ifCond .lt 7, 3), (48, 0, 0, 0)), (44, 45, (.iload_n 3, 1), (3, 0, 0, 0)), (45, 48, (.ifCond .ge 14, 3), (59, 0, 0, 0)), (48, 51, (.new 292, 3), (105, 294, 296, 1)), (59, 60, (.aload_n 0, 1), (0, 0, 0, 0)), (60, 63, (.getfield 12, 3), (6, 0, 1, 0)), (63, 65, (.iload 4, 2), (4, 0, 0, 0)), (65, 66, (.iload_n 3, 1), (3, 0, 0, 0)), (66, 69, (.invokevirtual 52, 3), (45, 2, 0, 5)), (69, 71, (.astore 5, 2), (5, 0, 0, 0)), (71, 73, (.bipush 100, 2), (0, 0, 0, 0)), (73, 75, (.aload 5, 2), (5, 0, 0, 0)), (75, 78, (.getfield 56, 3), (3, 0, 0, 0)), (78, 79, (.imul, 1), (0, 0, 0, 0)), (79, 81, (.aload 5, 2), (5, 0, 0, 0)), (81, 84, (.getfield 61, 3), (3, 1, 0, 0)), (84, 85, (.iadd, 1), (0, 0, 0, 0)), (85, 86, (.ireturn, 1), (0, 0, 0, 0))], [], [], (1, 6), [])
def mc_X5_takeBack : mg_C := ([(0, 1, (.aload_n 0, 1), (0, 0, 0, 0)), (1, 4, (.getfield 297, 3), (6, 2, 2, 0)), (4, 7, (.ifCond .ne 14, 3), (18, 0, 0, 0)), (7, 10, (.new 71, 3), (102, 301, 75, 1)), (18, 19, (.aload_n 0, 1), (0, 0, 0, 0)), (19, 22, (.getfield 16, 3), (6, 1, 1, 0)), (22, 23, (.astore_n 1, 1), (1, 0, 0, 0)), (23, 24, (.aload_n 0, 1), (0, 0, 0, 0)), (24, 25, (.aload_n 0, 1), (0, 0, 0, 0)), (25, 28, (.getfield 12, 3), (6, 0, 1, 0)), (28, 31, (.putfield 16, 3), (6, 1, 1, 0)), (31, 32, (.aload_n 0, 1), (0, 0, 0, 0)), (32, 33, (.aload_n 1, 1), (1, 0, 0, 0)), (33, 36, (.putfield 12, 3), (6, 0, 1, 0)), (36, 37, (.aload_n 0, 1), (0, 0, 0, 0)), (37, 40, (.invokevirtual 83, 3), (120, 0, 0, 6)), (40, 41, (.aload_n 0, 1), (0, 0, 0, 0)), (41, 44, (.getfield 12, 3), (6, 0, 1, 0)), (44, 47, (.getfield 43, 3), (5, 5, 1, 0)), (47, 50, (.getfield 47, 3), (4, 0, 0, 0)), (50, 51, (.aload_n 0, 1), (0, 0, 0, 0)), (51, 54, (.getfield 16, 3), (6, 1, 1, 0)), (54, 57, (.getfield 43, 3), (5, 5, 1, 0)), (57, 60, (.getfield 47, 3), (4, 0, 0, 0)), (60, 63, (.if_icmp .ne 7, 3), (67, 0, 0, 0)), (63, 64, (.iconst 1, 1), (0, 0, 0, 0)), (64, 67, (.goto 4, 3), (68, 0, 0, 0)), (67, 68, (.iconst 0, 1), (0, 0, 0, 0)), (68, 69, (.ireturn, 1), (0, 0, 0, 0))], [], [], (2, 6), [])
def mc_X5_sum : mg_C := ([(0, 1, (.aload_n 0, 1), (0, 0, 0, 0)), (1, 4, (.getfield 12, 3), (6, 0, 1, 0)), (4, 7, (.getfield 43, 3), (5, 5, 1, 0)), (7, 8, (.aload_n 0, 1), (0, 0, 0, 0)), (8, 11, (.getfield 22, 3), (6, 3, 1, 0)), (11, 14, (.invokevirtual 303, 3), (27, 1, 0, 4)), (14, 15, (.i2l, 1), (0, 0, 0, 0)), (15, 16, (.lreturn, 1), (0, 0, 0, 0))], [], [], (4, 6), [])
def mc_X5_mean : mg_C := ([(0, 1, (.aload_n 0, 1), (0, 0, 0, 0)), (1, 4, (.getfield 12, 3), (6, 0, 1, 0)), (4, 7, (.getfield 43, 3), (5, 5, 1, 0)), (7, 8, (.aload_n 0, 1), (0, 0, 0, 0)), (8, 11, (.getfield 22, 3), (6, 3, 1, 0)), (11, 14, (.invokevirtual 198, 3), (26, 1, 0, 4)), (14, 15, (.istore_n 1, 1), (1, 0, 0, 0)), (15, 16, (.iload_n 1, 1), (1, 0, 0, 0)), (16, 19, (.ifCond .ne 13, 3), (29, 0, 0, 0)), (19, 22, (.new 306, 3), (106, 216, 308, 0)), (29, 30, (.aload_n 0, 1), (0, 0, 0, 0)), (30, 33, (.getfield 12, 3), (6, 0, 1, 0)), (33, 36, (.getfield 43, 3), (5, 5, 1, 0)), (36, 37, (.aload_n 0, 1), (0, 0, 0, 0)), (37, 40, (.getfield 22, 3), (6, 3, 1, 0)), (40, 43, (.invokevirtual 303, 3), (27, 1, 0, 4)), (43, 44, (.i2d, 1), (0, 0, 0, 0)), (44, 45, (.iload_n 1, 1), (1, 0, 0, 0)), (45, 46, (.i2d, 1), (0, 0, 0, 0)), (46, 47, (.ddiv, 1), (0, 0, 0, 0)), (47, 48, (.dreturn, 1), (0, 0, 0, 0))], [], [], (6, 6), [])
def mc_X5_mergedShare : mg_C := ([(0, 1, (.aload_n 0, 1), (0, 0, 0, 0)), (1, 4, (.getfield 12, 3), (6, 0, 1, 0)), (4, 7, (.getfield 36, 3), (5, 0, 0, 0)), (7, 8, (.aload_n 0, 1), (0, 0, 0, 0)), (8, 11, (.getfield 12, 3), (6, 0, 1, 0)), (11, 14, (.getfield 40, 3), (5, 1, 0, 0)), (14, 15, (.imul, 1), (0, 0, 0, 0)), (15, 16, (.istore_n 1, 1), (1, 0, 0, 0)), (16, 17, (.iload_n 1, 1), (1, 0, 0, 0)), (17, 20, (.ifCond .ne 7, 3), (24, 0, 0, 0)), (20, 21, (.fconst 0, 1), (0, 0, 0, 0)), (21, 24, (.goto 17, 3), (38, 0, 0, 0)), (24, 25, (.aload_n 0, 1), (0, 0, 0, 0)), (25, 28, (.getfield 12, 3), (6, 0, 1, 0)), (28, 31, (.getfield 43, 3), (5, 5, 1, 0)), (31, 34, (.invokevirtual 309, 3), (33, 0, 0, 4)), (34, 35, (.i2f, 1), (0, 0, 0, 0)), (35, 36, (.iload_n 1, 1), (1, 0, 0, 0)), (36, 37, (.i2f, 1), (0, 0, 0, 0)), (37, 38, (.fdiv, 1), (0, 0, 0, 0)), (38, 39, (.freturn, 1), (0, 0, 0, 0))], [], [], (5, 6), [])
def mc_X5_isTiled : mg_C := ([(0, 1, (.aload_n 0, 1), (0, 0, 0, 0)), (1, 4, (.getfield 12, 3), (6, 0, 1, 0)), (4, 7, (.invokevirtual 312, 3), (68, 0, 0, 5)), (7, 10, (.ifCond .eq 27, 3), (34, 0, 0, 0)), (10, 11, (.aload_n 0, 1), (0, 0, 0, 0)), (11, 14, (.getfield 12, 3), (6, 0, 1, 0)), (14, 17, (.getfield 43, 3), (5, 5, 1, 0)), (17, 18, (.aload_n 0, 1), (0, 0, 0, 0)), (18, 21, (.getfield 12, 3), (6, 0, 1, 0)), (21, 24, (.getfield 247, 3), (5, 2, 0, 0)), (24, 27, (.invokevirtual 260, 3), (31, 1, 0, 4)), (27, 30, (.ifCond .ne 7, 3), (34, 0, 0, 0)), (30, 31, (.iconst 1, 1), (0, 0, 0, 0)), (31, 34, (.goto 4, 3), (35, 0, 0, 0)), (34, 35, (.iconst 0, 1), (0, 0, 0, 0)), (35, 36, (.ireturn, 1), (0, 0, 0, 0))], [], [], (2, 6), [])
def mc_X5_checkRow : mg_C := ([(0, 1, (.aload_n 0, 1), (0, 0, 0, 0)), (1, 4, (.getfield 12, 3), (6, 0, 1, 0)), (4, 5, (.iload_n 1, 1), (1, 0, 0, 0)), (5, 8, (.invokevirtual 315, 3), (39, 1, 0, 5)), (8, 11, (.ifCond .ne 14, 3), (22, 0, 0, 0)), (11, 14, (.new 64, 3), (101, 318, 68, 1)), (22, 23, (.return_, 1), (0, 0, 0, 0))], [], [], (0, 6), [])
def mc_X5_checkColumn : mg_C := ([(0, 1, (.aload_n 0, 1), (0, 0, 0, 0)), (1, 4, (.getfield 12, 3), (6, 0, 1, 0)), (4, 5, (.iload_n 1, 1), (1, 0, 0, 0)), (5, 8, (.invokevirtual 320, 3), (40, 1, 0, 5)), (8, 11, (.ifCond .ne 14, 3), (22, 0, 0, 0)), (11, 14, (.new 64, 3), (101, 323, 68, 1)), (22, 23, (.return_, 1), (0, 0, 0, 0))], [], [], (0, 6), [])
def mc_X5_checkSquare : mg_C := ([(0, 1, (.aload_n 0, 1), (0, 0, 0, 0)), (1, 2, (.iload_n 1, 1), (1, 0, 0, 0)), (2, 5, (.invokevirtual 93, 3), (114, 1, 1, 6)), (5, 6, (.aload_n 0, 1), (0, 0, 0, 0)), (6, 7, (.iload_n 2, 1), (2, 0, 0, 0)), (7, 10, (.invokevirtual 101, 3), (115, 1, 1, 6)), (10, 11, (.return_, 1), (0, 0, 0, 0))], [], [], (0, 6), [])
def mc_X5_isTimes : mg_C := ([(0, 1, (.iload_n 0, 1), (0, 0, 0, 0)), (1, 2, (.iconst 1, 1), (0, 0, 0, 0)), (2, 5, (.if_icmp .lt 12, 3), (14, 0, 0, 0)), (5, 6, (.iload_n 0, 1), (0, 0, 0, 0)), (6, 7, (.iconst 4, 1), (0, 0, 0, 0)), (7, 10, (.if_icmp .gt 7, 3), (14, 0, 0, 0)), (10, 11, (.iconst 1, 1), (0, 0, 0, 0)), (11, 14, (.goto 4, 3), (15, 0, 0, 0)), (14, 15, (.iconst 0, 1), (0, 0, 0, 0)), (15, 16, (.ireturn, 1), (0, 0, 0, 0))], [], [], (2, 6), [])
def mc_X5_isWidth : mg_C := ([(0, 1, (.lload_n 0, 1), (0, 0, 0, 0)), (1, 4, (.ldc2_w 325, 3), (10, 0, 0, 0)), (4, 5, (.lcmp, 1), (0, 0, 0, 0)), (5, 8, (.ifCond .lt 15, 3), (20, 0, 0, 0)), (8, 9, (.lload_n 0, 1), (0, 0, 0, 0)), (9, 12, (.ldc2_w 327, 3), (200, 0, 0, 0)), (12, 13, (.lcmp, 1), (0, 0, 0, 0)), (13, 16, (.ifCond .gt 7, 3), (20, 0, 0, 0)), (16, 17, (.iconst 1, 1), (0, 0, 0, 0)), (17, 20, (.goto 4, 3), (21, 0, 0, 0)), (20, 21, (.iconst 0, 1), (0, 0, 0, 0)), (21, 22, (.ireturn, 1), (0, 0, 0, 0))], [], [], (2, 6), [])
def mc_X5_remember : mg_C := ([(0, 1, (.aload_n 0, 1), (0, 0, 0, 0)), (1, 4, (.getfield 16, 3), (6, 1, 1, 0)), (4, 5, (.aload_n 0, 1), (0, 0, 0, 0)), (5, 8, (.getfield 12, 3), (6, 0, 1, 0)), (8, 11, (.invokevirtual 329, 3), (42, 1, 0, 5)), (11, 12, (.aload_n 0, 1), (0, 0, 0, 0)), (12, 13, (.iconst 1, 1), (0, 0, 0, 0)), (13, 16, (.putfield 297, 3), (6, 2, 2, 0)), (16, 17, (.return_, 1), (0, 0, 0, 0))], [], [], (0, 6), [])
def mc_X5_selectFirst : mg_C := ([(0, 1, (.aload_n 0, 1), (0, 0, 0, 0)), (1, 4, (.getfield 22, 3), (6, 3, 1, 0)), (4, 5, (.iconst 0, 1), (0, 0, 0, 0)), (5, 6, (.iconst 0, 1), (0, 0, 0, 0)), (6, 7, (.iconst 0, 1), (0, 0, 0, 0)), (7, 8, (.iconst 0, 1), (0, 0, 0, 0)), (8, 11, (.invokevirtual 168, 3), (15, 4, 0, 1)), (11, 12, (.aload_n 0, 1), (0, 0, 0, 0)), (12, 15, (.getfield 12, 3), (6, 0, 1, 0)), (15, 16, (.aload_n 0, 1), (0, 0, 0, 0)), (16, 19, (.getfield 22, 3), (6, 3, 1, 0)), (19, 22, (.invokevirtual 172, 3), (60, 1, 0, 5)), (22, 23, (.return_, 1), (0, 0, 0, 0))], [], [], (0, 6), [])
def mc_X5_sumOf : mg_C := ([(0, 1, (.iconst 0, 1), (0, 0, 0, 0)), (1, 2, (.istore_n 3, 1), (3, 0, 0, 0)), (2, 3, (.iload_n 1, 1), (1, 0, 0, 0)), (3, 4, (.iconst 0, 1), (0, 0, 0, 0)), (4, 7, (.invokestatic 129, 3), (1000, 0, 0, 0)), (7, 9, (.istore 4, 2), (4, 0, 0, 0)), (9, 11, (.iload 4, 2), (4, 0, 0, 0)), (11, 12, (.iload_n 1, 1), (1, 0, 0, 0)), (12, 13, (.iload_n 2, 1), (2, 0, 0, 0)), (13, 14, (.iadd, 1), (0, 0, 0, 0)), (14, 17, (.if_icmp .ge 23, 3), (37, 0, 0, 0)), (17, 19, (.iload 4, 2), (4, 0, 0, 0)), (19, 20, (.aload_n 0, 1), (0, 0, 0, 0)), (20, 21, (.arraylength, 1), (8, 0, 0, 0)), (21, 24, (.if_icmp .ge 16, 3), (37, 0, 0, 0)), (24, 25, (.iload_n 3, 1), (3, 0, 0, 0)), (25, 26, (.aload_n 0, 1), (0, 0, 0, 0)), (26, 28, (.iload 4, 2), (4, 0, 0, 0)), (28, 29, (.iaload, 1), (8, 0, 0, 0)), (29, 30, (.iadd, 1), (0, 0, 0, 0)), (30, 31, (.istore_n 3, 1), (3, 0, 0, 0)), (31, 34, (.iinc 4 1, 3), (4, 0, 0, 0)), (34, 37, (.goto (-25), 3), (9, 0, 0, 0)), (37, 38, (.iload_n 3, 1), (3, 0, 0, 0)), (38, 39, (.ireturn, 1), (0, 0, 0, 0))], [(9, [0, 1, 2, 3, 4])], [], (1, 6), [])
def mc_X5_lineAt : mg_C := ([(0, 1, (.iload_n 2, 1), (2, 0, 0, 0)), (1, 4, (.ifCond .ge 5, 3), (6, 0, 0, 0)), (4, 5, (.iconst (-1), 1), (0, 0, 0, 0)), (5, 6, (.ireturn, 1), (0, 0, 0, 0)), (6, 7, (.iconst 0, 1), (0, 0, 0, 0)), (7, 8, (.istore_n 3, 1), (3, 0, 0, 0)), (8, 9, (.iconst 0, 1), (0, 0, 0, 0)), (9, 11, (.istore 4, 2), (4, 0, 0, 0)), (11, 13, (.iload 4, 2), (4, 0, 0, 0)), (13, 14, (.iload_n 1, 1), (1, 0, 0, 0)), (14, 17, (.if_icmp .ge 31, 3), (45, 0, 0, 0)), (17, 19, (.iload 4, 2), (4, 0, 0, 0)), (19, 20, (.aload_n 0, 1), (0, 0, 0, 0)), (20, 21, (.arraylength, 1), (8, 0, 0, 0)), (21, 24, (.if_icmp .ge 24, 3), (45, 0, 0, 0)), (24, 25, (.iload_n 3, 1), (3, 0, 0, 0)), (25, 26, (.aload_n 0, 1), (0, 0, 0, 0)), (26, 28, (.iload 4, 2), (4, 0, 0, 0)), (28, 29, (.iaload, 1), (8, 0, 0, 0)), (29, 30, (.iadd, 1), (0, 0, 0, 0)), (30, 31, (.istore_n 3, 1), (3, 0, 0, 0)), (31, 32, (.iload_n 2, 1), (2, 0, 0, 0)), (32, 33, (.iload_n 3, 1), (3, 0, 0, 0)), (33, 36, (.if_icmp .ge 6, 3), (39, 0, 0, 0)), (36, 38, (.iload 4, 2), (4, 0, 0, 0)), (38, 39, (.ireturn, 1), (0, 0, 0, 0)), (39, 42, (.iinc 4 1, 3), (4, 0, 0, 0)), (42, 45, (.goto (-31), 3), (11, 0, 0, 0)), (45, 46, (.iconst (-1), 1), (0, 0, 0, 0)), (46, 47, (.ireturn, 1), (0, 0, 0, 0))], [(11, [0, 1, 2, 3, 4])], [], (1, 6), [])
def mc_X6_init : mg_C := ([(0, 1, (.aload_n 0, 1), (0, 0, 0, 0)), (1, 4, (.invokespecial 1, 3), (0, 0, 0, 0)), (4, 5, (.aload_n 0, 1), (0, 0, 0, 0)), (5, 6, (.iconst 4, 1), (0, 0, 0, 0)), (6, 9, (.putfield 7, 3), (7, 1, 0, 0)), (9, 10, (.aload_n 0, 1), (0, 0, 0, 0)), (10, 11, (.iconst 4, 1), (0, 0, 0, 0)), (11, 14, (.putfield 13, 3), (7, 2, 0, 0)), (14, 15, (.aload_n 0, 1), (0, 0, 0, 0)), (15, 17, (.bipush 120, 2), (0, 0, 0, 0)), (17, 19, (.newarray .int, 2), (8, 0, 0, 0)), (19, 22, (.putfield 16, 3), (7, 5, 1, 1)), (22, 23, (.aload_n 0, 1), (0, 0, 0, 0)), (23, 26, (.sipush 140, 3), (0, 0, 0, 0)), (26, 28, (.newarray .int, 2), (8, 0, 0, 0)), (28, 31, (.putfield 20, 3), (7, 6, 1, 1)), (31, 32, (.aload_n 0, 1), (0, 0, 0, 0)), (32, 35, (.sipush 140, 3), (0, 0, 0, 0)), (35, 37, (.newarray .int, 2), (8, 0, 0, 0)), (37, 40, (.putfield 23, 3), (7, 7, 1, 1)), (40, 41, (.aload_n 0, 1), (0, 0, 0, 0)), (41, 43, (.bipush 10, 2), (0, 0, 0, 0)), (43, 45, (.newarray .int, 2), (8, 0, 0, 0)), (45, 48, (.putfield 26, 3), (7, 8, 1, 1)), (48, 49, (.aload_n 0, 1), (0, 0, 0, 0)), (49, 51, (.bipush 12, 2), (0, 0, 0, 0)), (51, 53, (.newarray .int, 2), (8, 0, 0, 0)), (53, 56, (.putfield 29, 3), (7, 9, 1, 1)), (56, 57, (.aload_n 0, 1), (0, 0, 0, 0)), (57, 59, (.bipush 120, 2), (0, 0, 0, 0)), (59, 61, (.newarray .int, 2), (8, 0, 0, 0)), (61, 64, (.putfield 32, 3), (7, 14, 1, 1)), (64, 65, (.aload_n 0, 1), (0, 0, 0, 0)), (65, 68, (.sipush 140, 3), (0, 0, 0, 0)), (68, 70, (.newarray .int, 2), (8, 0, 0, 0)), (70, 73, (.putfield 35, 3), (7, 15, 1, 1)), (73, 74, (.aload_n 0, 1), (0, 0, 0, 0)), (74, 77, (.sipush 140, 3), (0, 0, 0, 0)), (77, 79, (.newarray .int, 2), (8, 0, 0, 0)), (79, 82, (.putfield 38, 3), (7, 16, 1, 1)), (82, 83, (.aload_n 0, 1), (0, 0, 0, 0)), (83, 85, (.bipush 10, 2), (0, 0, 0, 0)), (85, 87, (.newarray .int, 2), (8, 0, 0, 0)), (87, 90, (.putfield 41, 3), (7, 17, 1, 1)), (90, 91, (.aload_n 0, 1), (0, 0, 0, 0)), (91, 93, (.bipush 12, 2), (0, 0, 0, 0)), (93, 95, (.newarray .int, 2), (8, 0, 0, 0)), (95, 98, (.putfield 44, 3), (7, 18, 1, 1)), (98, 99, (.aload_n 0, 1), (0, 0, 0, 0)), (99, 101, (.bipush 120, 2), (0, 0, 0, 0)), (101, 103, (.newarray .int, 2), (8, 0, 0, 0)), (103, 106, (.putfield 47, 3), (7, 19, 1, 1)), (106, 107, (.aload_n 0, 1), (0, 0, 0, 0)), (107, 110, (.sipush 140, 3), (0, 0, 0, 0)), (110, 112, (.newarray .int, 2), (8, 0, 0, 0)), (112, 115, (.putfield 50, 3), (7, 20, 1, 1)), (115, 116, (.aload_n 0, 1), (0, 0, 0, 0)), (116, 118, (.bipush 120, 2), (0, 0, 0, 0)), (118, 120, (.newarray .int, 2), (8, 0, 0, 0)), (120, 123, (.putfield 53, 3), (7, 28, 1, 1)), (123, 124, (.aload_n 0, 1), (0, 0, 0, 0)), (124, 127, (.sipush 140, 3), (0, 0, 0, 0)), (127, 129, (.newarray .int, 2), (8, 0, 0, 0)), (129, 132, (.putfield 56, 3), (7, 29, 1, 1)), (132, 133, (.aload_n 0, 1), (0, 0, 0, 0)), (133, 136, (.sipush 140, 3), (0, 0, 0, 0)), (136, 138, (.newarray .int, 2), (8, 0, 0, 0)), (138, 141, (.putfield 59, 3), (7, 30, 1, 1)), (141, 142, (.aload_n 0, 1), (0, 0, 0, 0)), (142, 145, (.sipush 140, 3), (0, 0, 0, 0)), (145, 147, (.newarray .int, 2), (8, 0, 0, 0)), (147, 150, (.putfield 62, 3), (7, 31, 1, 1)), (150, 151, (.aload_n 0, 1), (0, 0, 0, 0)), (151, 153, (.bipush 12, 2), (0, 0, 0, 0)), (153, 155, (.newarray .int, 2), (8, 0, 0, 0)), (155, 158, (.putfield 65, 3), (7, 36, 1, 1)), (158, 159, (.iconst 0, 1), (0, 0, 0, 0)), (159, 160, (.istore_n 1, 1), (1, 0, 0, 0)), (160, 161, (.iload_n 1, 1), (1, 0, 0, 0)), (161, 163, (.bipush 10, 2), (0, 0, 0, 0)), (163, 166, (.if_icmp .ge 17, 3), (180, 0, 0, 0)), (166, 167, (.aload_n 0, 1), (0, 0, 0, 0)), (167, 170, (.getfield 26, 3), (7, 8, 1, 0)), (170, 171, (.iload_n 1, 1), (1, 0, 0, 0)), (171, 173, (.bipush 50, 2), (0, 0, 0, 0)), (173, 174, (.iastore, 1), (0, 0, 0, 0)), (174, 177, (.iinc 1 1, 3), (1, 0, 0, 0)), (177, 180, (.goto (-17), 3), (160, 0, 0, 0)), (180, 181, (.iconst 0, 1), (0, 0, 0, 0)), (181, 182, (.istore_n 1, 1), (1, 0, 0, 0)), (182, 183, (.iload_n 1, 1), (1, 0, 0, 0)), (183, 185, (.bipush 12, 2), (0, 0, 0, 0)), (185, 188, (.if_icmp .ge 17, 3), (202, 0, 0, 0)), (188, 189, (.aload_n 0, 1), (0, 0, 0, 0)), (189, 192, (.getfield 29, 3), (7, 9, 1, 0)), (192, 193, (.iload_n 1, 1), (1, 0, 0, 0)), (193, 195, (.bipush 20, 2), (0, 0, 0, 0)), (195, 196, (.iastore, 1), (0, 0, 0, 0)), (196, 199, (.iinc 1 1, 3), (1, 0, 0, 0)), (199, 202, (.goto (-17), 3), (182, 0, 0, 0)), (202, 203, (.iconst 0, 1), (0, 0, 0, 0)), (203, 204, (.istore_n 1, 1), (1, 0, 0, 0)), (204, 205, (.iload_n 1, 1), (1, 0, 0, 0)), (205, 207, (.bipush 120, 2), (0, 0, 0, 0)), (207, 210, (.if_icmp .ge 16, 3), (223, 0, 0, 0)), (210, 211, (.aload_n 0, 1), (0, 0, 0, 0)), (211, 214, (.getfield 16, 3), (7, 5, 1, 0)), (214, 215, (.iload_n 1, 1), (1, 0, 0, 0)), (215, 216, (.iload_n 1, 1), (1, 0, 0, 0)), (216, 217, (.iastore, 1), (0, 0, 0, 0)), (217, 220, (.iinc 1 1, 3), (1, 0, 0, 0)), (220, 223, (.goto (-16), 3), (204, 0, 0, 0)), (223, 224, (.aload_n 0, 1), (0, 0, 0, 0)), (224, 227, (.invokevirtual 68, 3), (129, 0, 0, 7)), (227, 228, (.return_, 1), (0, 0, 0, 0))], [(160, [0, 1]), (182, [0, 1]), (204, [0, 1])], [], (0, 7), [])
def mc_X6_thrown : mg_C := ([(0, 1, (.aload_n 0, 1), (0, 0, 0, 0)), (1, 4, (.getfield 71, 3), (7, 0, 0, 0)), (4, 5, (.ireturn, 1), (0, 0, 0, 0))], [], [], (1, 7), [])
def mc_X6_fails : mg_C := ([(0, 1, (.aload_n 0, 1), (0, 0, 0, 0)), (1, 2, (.iload_n 1, 1), (1, 0, 0, 0)), (2, 5, (.putfield 71, 3), (7, 0, 0, 0)), (5, 6, (.iload_n 1, 1), (1, 0, 0, 0)), (6, 9, (.ifCond .le 7, 3), (13, 0, 0, 0)), (9, 10, (.iconst 1, 1), (0, 0, 0, 0)), (10, 13, (.goto 4, 3), (14, 0, 0, 0)), (13, 14, (.iconst 0, 1), (0, 0, 0, 0)), (14, 15, (.ireturn, 1), (0, 0, 0, 0))], [], [], (2, 7), [])
def mc_X6_in : mg_C := ([(0, 1, (.iload_n 0, 1), (0, 0, 0, 0)), (1, 2, (.iload_n 1, 1), (1, 0, 0, 0)), (2, 5, (.if_icmp .lt 12, 3), (14, 0, 0, 0)), (5, 6, (.iload_n 0, 1), (0, 0, 0, 0)), (6, 7, (.iload_n 2, 1), (2, 0, 0, 0)), (7, 10, (.if_icmp .gt 7, 3), (14, 0, 0, 0)), (10, 11, (.iconst 1, 1), (0, 0, 0, 0)), (11, 14, (.goto 4, 3), (15, 0, 0, 0)), (14, 15, (.iconst 0, 1), (0, 0, 0, 0)), (15, 16, (.ireturn, 1), (0, 0, 0, 0))], [], [], (2, 7), [])
def mc_X6_isSquare : mg_C := ([(0, 1, (.iload_n 1, 1), (1, 0, 0, 0)), (1, 2, (.iconst 0, 1), (0, 0, 0, 0)), (2, 3, (.aload_n 0, 1), (0, 0, 0, 0)), (3, 6, (.getfield 7, 3), (7, 1, 0, 0)), (6, 7, (.iconst 1, 1), (0, 0, 0, 0)), (7, 8, (.isub, 1), (0, 0, 0, 0)), (8, 11, (.invokestatic 74, 3), (126, 3, 0, 0)), (11, 14, (.ifCond .eq 21, 3), (32, 0, 0, 0)), (14, 15, (.iload_n 2, 1), (2, 0, 0, 0)), (15, 16, (.iconst 0, 1), (0, 0, 0, 0)), (16, 17, (.aload_n 0, 1), (0, 0, 0, 0)), (17, 20, (.getfield 13, 3), (7, 2, 0, 0)), (20, 21, (.iconst 1, 1), (0, 0, 0, 0)), (21, 22, (.isub, 1), (0, 0, 0, 0)), (22, 25, (.invokestatic 74, 3), (126, 3, 0, 0)), (25, 28, (.ifCond .eq 7, 3), (32, 0, 0, 0)), (28, 29, (.iconst 1, 1), (0, 0, 0, 0)), (29, 32, (.goto 4, 3), (33, 0, 0, 0)), (32, 33, (.iconst 0, 1), (0, 0, 0, 0)), (33, 34, (.ireturn, 1), (0, 0, 0, 0))], [], [], (2, 7), [])
def mc_X6_id : mg_C := ([(0, 1, (.aload_n 0, 1), (0, 0, 0, 0)), (1, 4, (.getfield 16, 3), (7, 5, 1, 0)), (4, 6, (.bipush 10, 2), (0, 0, 0, 0)), (6, 7, (.iload_n 1, 1), (1, 0, 0, 0)), (7, 8, (.imul, 1), (0, 0, 0, 0)), (8, 9, (.iload_n 2, 1), (2, 0, 0, 0)), (9, 10, (.iadd, 1), (0, 0, 0, 0)), (10, 11, (.iaload, 1), (8, 0, 0, 0)), (11, 12, (.ireturn, 1), (0, 0, 0, 0))], [], [], (1, 7), [])
def mc_X6_settles : mg_C := ([(0, 1, (.iconst 0, 1), (0, 0, 0, 0)), (1, 2, (.istore_n 1, 1), (1, 0, 0, 0)), (2, 3, (.iload_n 1, 1), (1, 0, 0, 0)), (3, 6, (.sipush 140, 3), (0, 0, 0, 0)), (6, 9, (.if_icmp .ge 16, 3), (22, 0, 0, 0)), (9, 10, (.aload_n 0, 1), (0, 0, 0, 0)), (10, 13, (.getfield 50, 3), (7, 20, 1, 0)), (13, 14, (.iload_n 1, 1), (1, 0, 0, 0)), (14, 15, (.iconst (-1), 1), (0, 0, 0, 0)), (15, 16, (.iastore, 1), (0, 0, 0, 0)), (16, 19, (.iinc 1 1, 3), (1, 0, 0, 0)), (19, 22, (.goto (-17), 3), (2, 0, 0, 0)), (22, 23, (.aload_n 0, 1), (0, 0, 0, 0)), (23, 24, (.iconst 0, 1), (0, 0, 0, 0)), (24, 27, (.putfield 78, 3), (7, 4, 0, 0)), (27, 28, (.iconst 0, 1), (0, 0, 0, 0)), (28, 29, (.istore_n 1, 1), (1, 0, 0, 0)), (29, 30, (.iload_n 1, 1), (1, 0, 0, 0)), (30, 31, (.aload_n 0, 1), (0, 0, 0, 0)), (31, 34, (.getfield 7, 3), (7, 1, 0, 0)), (34, 37, (.if_icmp .ge 62, 3), (96, 0, 0, 0)), (37, 38, (.iconst 0, 1), (0, 0, 0, 0)), (38, 39, (.istore_n 2, 1), (2, 0, 0, 0)), (39, 40, (.iload_n 2, 1), (2, 0, 0, 0)), (40, 41, (.aload_n 0, 1), (0, 0, 0, 0)), (41, 44, (.getfield 13, 3), (7, 2, 0, 0)), (44, 47, (.if_icmp .ge 46, 3), (90, 0, 0, 0)), (47, 48, (.aload_n 0, 1), (0, 0, 0, 0)), (48, 49, (.iload_n 1, 1), (1, 0, 0, 0)), (49, 50, (.iload_n 2, 1), (2, 0, 0, 0)), (50, 53, (.invokevirtual 81, 3), (128, 2, 0, 7)), (53, 54, (.istore_n 3, 1), (3, 0, 0, 0)), (54, 55, (.aload_n 0, 1), (0, 0, 0, 0)), (55, 58, (.getfield 50, 3), (7, 20, 1, 0)), (58, 59, (.iload_n 3, 1), (3, 0, 0, 0)), (59, 60, (.iaload, 1), (8, 0, 0, 0)), (60, 61, (.iconst (-1), 1), (0, 0, 0, 0)), (61, 64, (.if_icmp .ne 23, 3), (84, 0, 0, 0)), (64, 65, (.aload_n 0, 1), (0, 0, 0, 0)), (65, 68, (.getfield 50, 3), (7, 20, 1, 0)), (68, 69, (.iload_n 3, 1), (3, 0, 0, 0)), (69, 70, (.aload_n 0, 1), (0, 0, 0, 0)), (70, 73, (.getfield 78, 3), (7, 4, 0, 0)), (73, 74, (.iastore, 1), (0, 0, 0, 0)), (74, 75, (.aload_n 0, 1), (0, 0, 0, 0)), (75, 76, (.dup, 1), (0, 0, 0, 0)), (76, 79, (.getfield 78, 3), (7, 4, 0, 0)), (79, 80, (.iconst 1, 1), (0, 0, 0, 0)), (80, 81, (.iadd, 1), (0, 0, 0, 0)), (81, 84, (.putfield 78, 3), (7, 4, 0, 0)), (84, 87, (.iinc 2 1, 3), (2, 0, 0, 0)), (87, 90, (.goto (-48), 3), (39, 0, 0, 0)), (90, 93, (.iinc 1 1, 3), (1, 0, 0, 0)), (93, 96, (.goto (-64), 3), (29, 0, 0, 0)), (96, 97, (.aload_n 0, 1), (0, 0, 0, 0)), (97, 98, (.aload_n 0, 1), (0, 0, 0, 0)), (98, 101, (.getfield 20, 3), (7, 6, 1, 0)), (101, 104, (.invokevirtual 85, 3), (130, 1, 0, 7)), (104, 105, (.aload_n 0, 1), (0, 0, 0, 0)), (105, 106, (.aload_n 0, 1), (0, 0, 0, 0)), (106, 109, (.getfield 23, 3), (7, 7, 1, 0)), (109, 112, (.invokevirtual 85, 3), (130, 1, 0, 7)), (112, 113, (.iconst 0, 1), (0, 0, 0, 0)), (113, 114, (.istore_n 1, 1), (1, 0, 0, 0)), (114, 115, (.iload_n 1, 1), (1, 0, 0, 0)), (115, 116, (.aload_n 0, 1), (0, 0, 0, 0)), (116, 119, (.getfield 7, 3), (7, 1, 0, 0)), (119, 122, (.if_icmp .ge 47, 3), (166, 0, 0, 0)), (122, 123, (.iconst 0, 1), (0, 0, 0, 0)), (123, 124, (.istore_n 2, 1), (2, 0, 0, 0)), (124, 125, (.iload_n 2, 1), (2, 0, 0, 0)), (125, 126, (.aload_n 0, 1), (0, 0, 0, 0)), (126, 129, (.getfield 13, 3), (7, 2, 0, 0)), (129, 132, (.if_icmp .ge 31, 3), (160, 0, 0, 0)), (132, 133, (.aload_n 0, 1), (0, 0, 0, 0)), (133, 136, (.getfield 16, 3), (7, 5, 1, 0)), (136, 138, (.bipush 10, 2), (0, 0, 0, 0)), (138, 139, (.iload_n 1, 1), (1, 0, 0, 0)), (139, 140, (.imul, 1), (0, 0, 0, 0)), (140, 141, (.iload_n 2, 1), (2, 0, 0, 0)), (141, 142, (.iadd, 1), (0, 0, 0, 0)), (142, 143, (.aload_n 0, 1), (0, 0, 0, 0)), (143, 146, (.getfield 50, 3), (7, 20, 1, 0)), (146, 147, (.aload_n 0, 1), (0, 0, 0, 0)), (147, 148, (.iload_n 1, 1), (1, 0, 0, 0)), (148, 149, (.iload_n 2, 1), (2, 0, 0, 0)), (149, 152, (.invokevirtual 81, 3), (128, 2, 0, 7)), (152, 153, (.iaload, 1), (8, 0, 0, 0)), (153, 154, (.iastore, 1), (0, 0, 0, 0)), (154, 157, (.iinc 2 1, 3), (2, 0, 0, 0)), (157, 160, (.goto (-33), 3), (124, 0, 0, 0)), (160, 163, (.iinc 1 1, 3), (1, 0, 0, 0)), (163, 166, (.goto (-49), 3), (114, 0, 0, 0)), (166, 167, (.return_, 1), (0, 0, 0, 0))], [(2, [0, 1]), (29, [0, 1]), (39, [0, 1, 2]), (114, [0, 1]), (124, [0, 1, 2])], [], (0, 7), [])
def mc_X6_renames : mg_C := ([(0, 1, (.iconst 0, 1), (0, 0, 0, 0)), (1, 2, (.istore_n 2, 1), (2, 0, 0, 0)), (2, 3, (.iload_n 2, 1), (2, 0, 0, 0)), (3, 6, (.sipush 140, 3), (0, 0, 0, 0)), (6, 9, (.if_icmp .ge 33, 3), (39, 0, 0, 0)), (9, 10, (.aload_n 0, 1), (0, 0, 0, 0)), (10, 13, (.getfield 50, 3), (7, 20, 1, 0)), (13, 14, (.iload_n 2, 1), (2, 0, 0, 0)), (14, 15, (.iaload, 1), (8, 0, 0, 0)), (15, 16, (.iconst (-1), 1), (0, 0, 0, 0)), (16, 19, (.if_icmp .eq 17, 3), (33, 0, 0, 0)), (19, 20, (.aload_n 0, 1), (0, 0, 0, 0)), (20, 23, (.getfield 62, 3), (7, 31, 1, 0)), (23, 24, (.aload_n 0, 1), (0, 0, 0, 0)), (24, 27, (.getfield 50, 3), (7, 20, 1, 0)), (27, 28, (.iload_n 2, 1), (2, 0, 0, 0)), (28, 29, (.iaload, 1), (8, 0, 0, 0)), (29, 30, (.aload_n 1, 1), (1, 0, 0, 0)), (30, 31, (.iload_n 2, 1), (2, 0, 0, 0)), (31, 32, (.iaload, 1), (8, 0, 0, 0)), (32, 33, (.iastore, 1), (0, 0, 0, 0)), (33, 36, (.iinc 2 1, 3), (2, 0, 0, 0)), (36, 39, (.goto (-34), 3), (2, 0, 0, 0)), (39, 40, (.iconst 0, 1), (0, 0, 0, 0)), (40, 41, (.istore_n 2, 1), (2, 0, 0, 0)), (41, 42, (.iload_n 2, 1), (2, 0, 0, 0)), (42, 45, (.sipush 140, 3), (0, 0, 0, 0)), (45, 48, (.if_icmp .ge 30, 3), (75, 0, 0, 0)), (48, 49, (.aload_n 1, 1), (1, 0, 0, 0)), (49, 50, (.iload_n 2, 1), (2, 0, 0, 0)), (50, 51, (.iload_n 2, 1), (2, 0, 0, 0)), (51, 52, (.aload_n 0, 1), (0, 0, 0, 0)), (52, 55, (.getfield 78, 3), (7, 4, 0, 0)), (55, 58, (.if_icmp .ge 12, 3), (67, 0, 0, 0)), (58, 59, (.aload_n 0, 1), (0, 0, 0, 0)), (59, 62, (.getfield 62, 3), (7, 31, 1, 0)), (62, 63, (.iload_n 2, 1), (2, 0, 0, 0)), (63, 64, (.iaload, 1), (8, 0, 0, 0)), (64, 67, (.goto 4, 3), (68, 0, 0, 0)), (67, 68, (.iconst 0, 1), (0, 0, 0, 0)), (68, 69, (.iastore, 1), (0, 0, 0, 0)), (69, 72, (.iinc 2 1, 3), (2, 0, 0, 0)), (72, 75, (.goto (-31), 3), (41, 0, 0, 0)), (75, 76, (.return_, 1), (0, 0, 0, 0))], [(2, [0, 1, 2]), (41, [0, 1, 2])], [], (0, 7), [])
def mc_X6_keeps : mg_C := ([(0, 1, (.aload_n 0, 1), (0, 0, 0, 0)), (1, 2, (.iconst 1, 1), (0, 0, 0, 0)), (2, 5, (.putfield 89, 3), (7, 10, 2, 0)), (5, 6, (.aload_n 0, 1), (0, 0, 0, 0)), (6, 7, (.aload_n 0, 1), (0, 0, 0, 0)), (7, 10, (.getfield 7, 3), (7, 1, 0, 0)), (10, 13, (.putfield 93, 3), (7, 11, 0, 0)), (13, 14, (.aload_n 0, 1), (0, 0, 0, 0)), (14, 15, (.aload_n 0, 1), (0, 0, 0, 0)), (15, 18, (.getfield 13, 3), (7, 2, 0, 0)), (18, 21, (.putfield 96, 3), (7, 12, 0, 0)), (21, 22, (.aload_n 0, 1), (0, 0, 0, 0)), (22, 23, (.aload_n 0, 1), (0, 0, 0, 0)), (23, 26, (.getfield 99, 3), (7, 3, 0, 0)), (26, 29, (.putfield 102, 3), (7, 13, 0, 0)), (29, 30, (.iconst 0, 1), (0, 0, 0, 0)), (30, 31, (.istore_n 1, 1), (1, 0, 0, 0)), (31, 32, (.iload_n 1, 1), (1, 0, 0, 0)), (32, 34, (.bipush 120, 2), (0, 0, 0, 0)), (34, 37, (.if_icmp .ge 21, 3), (55, 0, 0, 0)), (37, 38, (.aload_n 0, 1), (0, 0, 0, 0)), (38, 41, (.getfield 32, 3), (7, 14, 1, 0)), (41, 42, (.iload_n 1, 1), (1, 0, 0, 0)), (42, 43, (.aload_n 0, 1), (0, 0, 0, 0)), (43, 46, (.getfield 16, 3), (7, 5, 1, 0)), (46, 47, (.iload_n 1, 1), (1, 0, 0, 0)), (47, 48, (.iaload, 1), (8, 0, 0, 0)), (48, 49, (.iastore, 1), (0, 0, 0, 0)), (49, 52, (.iinc 1 1, 3), (1, 0, 0, 0)), (52, 55, (.goto (-21), 3), (31, 0, 0, 0)), (55, 56, (.iconst 0, 1), (0, 0, 0, 0)), (56, 57, (.istore_n 1, 1), (1, 0, 0, 0)), (57, 58, (.iload_n 1, 1), (1, 0, 0, 0)), (58, 61, (.sipush 140, 3), (0, 0, 0, 0)), (61, 64, (.if_icmp .ge 33, 3), (94, 0, 0, 0)), (64, 65, (.aload_n 0, 1), (0, 0, 0, 0)), (65, 68, (.getfield 35, 3), (7, 15, 1, 0)), (68, 69, (.iload_n 1, 1), (1, 0, 0, 0)), (69, 70, (.aload_n 0, 1), (0, 0, 0, 0)), (70, 73, (.getfield 20, 3), (7, 6, 1, 0)), (73, 74, (.iload_n 1, 1), (1, 0, 0, 0)), (74, 75, (.iaload, 1), (8, 0, 0, 0)), (75, 76, (.iastore, 1), (0, 0, 0, 0)), (76, 77, (.aload_n 0, 1), (0, 0, 0, 0)), (77, 80, (.getfield 38, 3), (7, 16, 1, 0)), (80, 81, (.iload_n 1, 1), (1, 0, 0, 0)), (81, 82, (.aload_n 0, 1), (0, 0, 0, 0)), (82, 85, (.getfield 23, 3), (7, 7, 1, 0)), (85, 86, (.iload_n 1, 1), (1, 0, 0, 0)), (86, 87, (.iaload, 1), (8, 0, 0, 0)), (87, 88, (.iastore, 1), (0, 0, 0, 0)), (88, 91, (.iinc 1 1, 3), (1, 0, 0, 0)), (91, 94, (.goto (-34), 3), (57, 0, 0, 0)), (94, 95, (.iconst 0, 1), (0, 0, 0, 0)), (95, 96, (.istore_n 1, 1), (1, 0, 0, 0)), (96, 97, (.iload_n 1, 1), (1, 0, 0, 0)), (97, 99, (.bipush 10, 2), (0, 0, 0, 0)), (99, 102, (.if_icmp .ge 21, 3), (120, 0, 0, 0)), (102, 103, (.aload_n 0, 1), (0, 0, 0, 0)), (103, 106, (.getfield 41, 3), (7, 17, 1, 0)), (106, 107, (.iload_n 1, 1), (1, 0, 0, 0)), (107, 108, (.aload_n 0, 1), (0, 0, 0, 0)), (108, 111, (.getfield 26, 3), (7, 8, 1, 0)), (111, 112, (.iload_n 1, 1), (1, 0, 0, 0)), (112, 113, (.iaload, 1), (8, 0, 0, 0)), (113, 114, (.iastore, 1), (0, 0, 0, 0)), (114, 117, (.iinc 1 1, 3), (1, 0, 0, 0)), (117, 120, (.goto (-21), 3), (96, 0, 0, 0)), (120, 121, (.iconst 0, 1), (0, 0, 0, 0)), (121, 122, (.istore_n 1, 1), (1, 0, 0, 0)), (122, 123, (.iload_n 1, 1), (1, 0, 0, 0)), (123, 125, (.bipush 12, 2), (0, 0, 0, 0)), (125, 128, (.if_icmp .ge 21, 3), (146, 0, 0, 0)), (128, 129, (.aload_n 0, 1), (0, 0, 0, 0)), (129, 132, (.getfield 44, 3), (7, 18, 1, 0)), (132, 133, (.iload_n 1, 1), (1, 0, 0, 0)), (133, 134, (.aload_n 0, 1), (0, 0, 0, 0)), (134, 137, (.getfield 29, 3), (7, 9, 1, 0)), (137, 138, (.iload_n 1, 1), (1, 0, 0, 0)), (138, 139, (.iaload, 1), (8, 0, 0, 0)), (139, 140, (.iastore, 1), (0, 0, 0, 0)), (140, 143, (.iinc 1 1, 3), (1, 0, 0, 0)), (143, 146, (.goto (-21), 3), (122, 0, 0, 0)), (146, 147, (.return_, 1), (0, 0, 0, 0))], [(31, [0, 1]), (57, [0, 1]), (96, [0, 1]), (122, [0, 1])], [], (0, 7), [])
def mc_X6_isIn : mg_C := ([(0, 1, (.iload_n 1, 1), (1, 0, 0, 0)), (1, 2, (.aload_n 0, 1), (0, 0, 0, 0)), (2, 5, (.getfield 105, 3), (7, 32, 0, 0)), (5, 6, (.aload_n 0, 1), (0, 0, 0, 0)), (6, 9, (.getfield 108, 3), (7, 33, 0, 0)), (9, 12, (.invokestatic 74, 3), (126, 3, 0, 0)), (12, 15, (.ifCond .eq 22, 3), (34, 0, 0, 0)), (15, 16, (.iload_n 2, 1), (2, 0, 0, 0)), (16, 17, (.aload_n 0, 1), (0, 0, 0, 0)), (17, 20, (.getfield 111, 3), (7, 34, 0, 0)), (20, 21, (.aload_n 0, 1), (0, 0, 0, 0)), (21, 24, (.getfield 114, 3), (7, 35, 0, 0)), (24, 27, (.invokestatic 74, 3), (126, 3, 0, 0)), (27, 30, (.ifCond .eq 7, 3), (34, 0, 0, 0)), (30, 31, (.iconst 1, 1), (0, 0, 0, 0)), (31, 34, (.goto 4, 3), (35, 0, 0, 0)), (34, 35, (.iconst 0, 1), (0, 0, 0, 0)), (35, 36, (.ireturn, 1), (0, 0, 0, 0))], [], [], (2, 7), [])
def mc_X6_isCut : mg_C := ([(0, 1, (.iconst 0, 1), (0, 0, 0, 0)), (1, 2, (.istore_n 2, 1), (2, 0, 0, 0)), (2, 3, (.iconst 0, 1), (0, 0, 0, 0)), (3, 4, (.istore_n 3, 1), (3, 0, 0, 0)), (4, 5, (.iconst 0, 1), (0, 0, 0, 0)), (5, 7, (.istore 4, 2), (4, 0, 0, 0)), (7, 9, (.iload 4, 2), (4, 0, 0, 0)), (9, 10, (.aload_n 0, 1), (0, 0, 0, 0)), (10, 13, (.getfield 7, 3), (7, 1, 0, 0)), (13, 16, (.if_icmp .ge 93, 3), (106, 0, 0, 0)), (16, 17, (.iconst 0, 1), (0, 0, 0, 0)), (17, 19, (.istore 5, 2), (5, 0, 0, 0)), (19, 21, (.iload 5, 2), (5, 0, 0, 0)), (21, 22, (.aload_n 0, 1), (0, 0, 0, 0)), (22, 25, (.getfield 13, 3), (7, 2, 0, 0)), (25, 28, (.if_icmp .ge 75, 3), (100, 0, 0, 0)), (28, 29, (.iload_n 2, 1), (2, 0, 0, 0)), (29, 32, (.ifCond .ne 26, 3), (55, 0, 0, 0)), (32, 33, (.aload_n 0, 1), (0, 0, 0, 0)), (33, 35, (.iload 4, 2), (4, 0, 0, 0)), (35, 37, (.iload 5, 2), (5, 0, 0, 0)), (37, 40, (.invokevirtual 81, 3), (128, 2, 0, 7)), (40, 41, (.iload_n 1, 1), (1, 0, 0, 0)), (41, 44, (.if_icmp .ne 18, 3), (59, 0, 0, 0)), (44, 45, (.aload_n 0, 1), (0, 0, 0, 0)), (45, 47, (.iload 4, 2), (4, 0, 0, 0)), (47, 49, (.iload 5, 2), (5, 0, 0, 0)), (49, 52, (.invokevirtual 117, 3), (132, 2, 0, 7)), (52, 55, (.ifCond .eq 7, 3), (59, 0, 0, 0)), (55, 56, (.iconst 1, 1), (0, 0, 0, 0)), (56, 59, (.goto 4, 3), (60, 0, 0, 0)), (59, 60, (.iconst 0, 1), (0, 0, 0, 0)), (60, 61, (.istore_n 2, 1), (2, 0, 0, 0)), (61, 62, (.iload_n 3, 1), (3, 0, 0, 0)), (62, 65, (.ifCond .ne 26, 3), (88, 0, 0, 0)), (65, 66, (.aload_n 0, 1), (0, 0, 0, 0)), (66, 68, (.iload 4, 2), (4, 0, 0, 0)), (68, 70, (.iload 5, 2), (5, 0, 0, 0)), (70, 73, (.invokevirtual 81, 3), (128, 2, 0, 7)), (73, 74, (.iload_n 1, 1), (1, 0, 0, 0)), (74, 77, (.if_icmp .ne 18, 3), (92, 0, 0, 0)), (77, 78, (.aload_n 0, 1), (0, 0, 0, 0)), (78, 80, (.iload 4, 2), (4, 0, 0, 0)), (80, 82, (.iload 5, 2), (5, 0, 0, 0)), (82, 85, (.invokevirtual 117, 3), (132, 2, 0, 7)), (85, 88, (.ifCond .ne 7, 3), (92, 0, 0, 0)), (88, 89, (.iconst 1, 1), (0, 0, 0, 0)), (89, 92, (.goto 4, 3), (93, 0, 0, 0)), (92, 93, (.iconst 0, 1), (0, 0, 0, 0)), (93, 94, (.istore_n 3, 1), (3, 0, 0, 0)), (94, 97, (.iinc 5 1, 3), (5, 0, 0, 0)), (97, 100, (.goto (-78), 3), (19, 0, 0, 0)), (100, 103, (.iinc 4 1, 3), (4, 0, 0, 0)), (103, 106, (.goto (-96), 3), (7, 0, 0, 0)), (106, 107, (.iload_n 2, 1), (2, 0, 0, 0)), (107, 110, (.ifCond .eq 11, 3), (118, 0, 0, 0)), (110, 111, (.iload_n 3, 1), (3, 0, 0, 0)), (111, 114, (.ifCond .eq 7, 3), (118, 0, 0, 0)), (114, 115, (.iconst 1, 1), (0, 0, 0, 0)), (115, 118, (.goto 4, 3), (119, 0, 0, 0)), (118, 119, (.iconst 0, 1), (0, 0, 0, 0)), (119, 120, (.ireturn, 1), (0, 0, 0, 0))], [(7, [0, 1, 2, 3, 4]), (19, [0, 1, 2, 3, 4, 5])], [], (2, 7), [])
def mc_X6_takesIn : mg_C := ([(0, 1, (.iconst 0, 1), (0, 0, 0, 0)), (1, 2, (.istore_n 2, 1), (2, 0, 0, 0)), (2, 3, (.iload_n 2, 1), (2, 0, 0, 0)), (3, 4, (.aload_n 0, 1), (0, 0, 0, 0)), (4, 7, (.getfield 7, 3), (7, 1, 0, 0)), (7, 10, (.if_icmp .ge 115, 3), (122, 0, 0, 0)), (10, 11, (.iconst 0, 1), (0, 0, 0, 0)), (11, 12, (.istore_n 3, 1), (3, 0, 0, 0)), (12, 13, (.iload_n 3, 1), (3, 0, 0, 0)), (13, 14, (.aload_n 0, 1), (0, 0, 0, 0)), (14, 17, (.getfield 13, 3), (7, 2, 0, 0)), (17, 20, (.if_icmp .ge 99, 3), (116, 0, 0, 0)), (20, 21, (.aload_n 0, 1), (0, 0, 0, 0)), (21, 22, (.iload_n 2, 1), (2, 0, 0, 0)), (22, 23, (.iload_n 3, 1), (3, 0, 0, 0)), (23, 26, (.invokevirtual 81, 3), (128, 2, 0, 7)), (26, 27, (.iload_n 1, 1), (1, 0, 0, 0)), (27, 30, (.if_icmp .ne 83, 3), (110, 0, 0, 0)), (30, 31, (.aload_n 0, 1), (0, 0, 0, 0)), (31, 32, (.iload_n 2, 1), (2, 0, 0, 0)), (32, 33, (.aload_n 0, 1), (0, 0, 0, 0)), (33, 36, (.getfield 105, 3), (7, 32, 0, 0)), (36, 39, (.if_icmp .ge 7, 3), (43, 0, 0, 0)), (39, 40, (.iload_n 2, 1), (2, 0, 0, 0)), (40, 43, (.goto 7, 3), (47, 0, 0, 0)), (43, 44, (.aload_n 0, 1), (0, 0, 0, 0)), (44, 47, (.getfield 105, 3), (7, 32, 0, 0)), (47, 50, (.putfield 105, 3), (7, 32, 0, 0)), (50, 51, (.aload_n 0, 1), (0, 0, 0, 0)), (51, 52, (.iload_n 2, 1), (2, 0, 0, 0)), (52, 53, (.aload_n 0, 1), (0, 0, 0, 0)), (53, 56, (.getfield 108, 3), (7, 33, 0, 0)), (56, 59, (.if_icmp .le 7, 3), (63, 0, 0, 0)), (59, 60, (.iload_n 2, 1), (2, 0, 0, 0)), (60, 63, (.goto 7, 3), (67, 0, 0, 0)), (63, 64, (.aload_n 0, 1), (0, 0, 0, 0)), (64, 67, (.getfield 108, 3), (7, 33, 0, 0)), (67, 70, (.putfield 108, 3), (7, 33, 0, 0)), (70, 71, (.aload_n 0, 1), (0, 0, 0, 0)), (71, 72, (.iload_n 3, 1), (3, 0, 0, 0)), (72, 73, (.aload_n 0, 1), (0, 0, 0, 0)), (73, 76, (.getfield 111, 3), (7, 34, 0, 0)), (76, 79, (.if_icmp .ge 7, 3), (83, 0, 0, 0)), (79, 80, (.iload_n 3, 1), (3, 0, 0, 0)), (80, 83, (.goto 7, 3), (87, 0, 0, 0)), (83, 84, (.aload_n 0, 1), (0, 0, 0, 0)), (84, 87, (.getfield 111, 3), (7, 34, 0, 0)), (87, 90, (.putfield 111, 3), (7, 34, 0, 0)), (90, 91, (.aload_n 0, 1), (0, 0, 0, 0)), (91, 92, (.iload_n 3, 1), (3, 0, 0, 0)), (92, 93, (.aload_n 0, 1), (0, 0, 0, 0)), (93, 96, (.getfield 114, 3), (7, 35, 0, 0)), (96, 99, (.if_icmp .le 7, 3), (103, 0, 0, 0)), (99, 100, (.iload_n 3, 1), (3, 0, 0, 0)), (100, 103, (.goto 7, 3), (107, 0, 0, 0)), (103, 104, (.aload_n 0, 1), (0, 0, 0, 0)), (104, 107, (.getfield 114, 3), (7, 35, 0, 0)), (107, 110, (.putfield 114, 3), (7, 35, 0, 0)), (110, 113, (.iinc 3 1, 3), (3, 0, 0, 0)), (113, 116, (.goto (-101), 3), (12, 0, 0, 0)), (116, 119, (.iinc 2 1, 3), (2, 0, 0, 0)), (119, 122, (.goto (-117), 3), (2, 0, 0, 0)), (122, 123, (.return_, 1), (0, 0, 0, 0))], [(2, [0, 1, 2]), (12, [0, 1, 2, 3])], [], (0, 7), [])
def mc_X6_grows : mg_C := ([(0, 1, (.iconst 1, 1), (0, 0, 0, 0)), (1, 2, (.istore_n 1, 1), (1, 0, 0, 0)), (2, 3, (.iload_n 1, 1), (1, 0, 0, 0)), (3, 6, (.ifCond .eq 39, 3), (42, 0, 0, 0)), (6, 7, (.iconst 0, 1), (0, 0, 0, 0)), (7, 8, (.istore_n 1, 1), (1, 0, 0, 0)), (8, 9, (.iconst 0, 1), (0, 0, 0, 0)), (9, 10, (.istore_n 2, 1), (2, 0, 0, 0)), (10, 11, (.iload_n 2, 1), (2, 0, 0, 0)), (11, 12, (.aload_n 0, 1), (0, 0, 0, 0)), (12, 15, (.getfield 78, 3), (7, 4, 0, 0)), (15, 18, (.if_icmp .ge 24, 3), (39, 0, 0, 0)), (18, 19, (.aload_n 0, 1), (0, 0, 0, 0)), (19, 20, (.iload_n 2, 1), (2, 0, 0, 0)), (20, 23, (.invokevirtual 121, 3), (133, 1, 0, 7)), (23, 26, (.ifCond .eq 10, 3), (33, 0, 0, 0)), (26, 27, (.aload_n 0, 1), (0, 0, 0, 0)), (27, 28, (.iload_n 2, 1), (2, 0, 0, 0)), (28, 31, (.invokevirtual 125, 3), (134, 1, 0, 7)), (31, 32, (.iconst 1, 1), (0, 0, 0, 0)), (32, 33, (.istore_n 1, 1), (1, 0, 0, 0)), (33, 36, (.iinc 2 1, 3), (2, 0, 0, 0)), (36, 39, (.goto (-26), 3), (10, 0, 0, 0)), (39, 42, (.goto (-37), 3), (2, 0, 0, 0)), (42, 43, (.return_, 1), (0, 0, 0, 0))], [(2, [0, 1]), (10, [0, 1, 2])], [], (0, 7), [])
def mc_X6_spans : mg_C := ([(0, 1, (.aload_n 0, 1), (0, 0, 0, 0)), (1, 2, (.iload_n 1, 1), (1, 0, 0, 0)), (2, 3, (.iload_n 3, 1), (3, 0, 0, 0)), (3, 6, (.if_icmp .ge 7, 3), (10, 0, 0, 0)), (6, 7, (.iload_n 1, 1), (1, 0, 0, 0)), (7, 10, (.goto 4, 3), (11, 0, 0, 0)), (10, 11, (.iload_n 3, 1), (3, 0, 0, 0)), (11, 14, (.putfield 105, 3), (7, 32, 0, 0)), (14, 15, (.aload_n 0, 1), (0, 0, 0, 0)), (15, 16, (.iload_n 1, 1), (1, 0, 0, 0)), (16, 17, (.iload_n 3, 1), (3, 0, 0, 0)), (17, 20, (.if_icmp .ge 7, 3), (24, 0, 0, 0)), (20, 21, (.iload_n 3, 1), (3, 0, 0, 0)), (21, 24, (.goto 4, 3), (25, 0, 0, 0)), (24, 25, (.iload_n 1, 1), (1, 0, 0, 0)), (25, 28, (.putfield 108, 3), (7, 33, 0, 0)), (28, 29, (.aload_n 0, 1), (0, 0, 0, 0)), (29, 30, (.iload_n 2, 1), (2, 0, 0, 0)), (30, 32, (.iload 4, 2), (4, 0, 0, 0)), (32, 35, (.if_icmp .ge 7, 3), (39, 0, 0, 0)), (35, 36, (.iload_n 2, 1), (2, 0, 0, 0)), (36, 39, (.goto 5, 3), (41, 0, 0, 0)), (39, 41, (.iload 4, 2), (4, 0, 0, 0)), (41, 44, (.putfield 111, 3), (7, 34, 0, 0)), (44, 45, (.aload_n 0, 1), (0, 0, 0, 0)), (45, 46, (.iload_n 2, 1), (2, 0, 0, 0)), (46, 48, (.iload 4, 2), (4, 0, 0, 0)), (48, 51, (.if_icmp .ge 8, 3), (56, 0, 0, 0)), (51, 53, (.iload 4, 2), (4, 0, 0, 0)), (53, 56, (.goto 4, 3), (57, 0, 0, 0)), (56, 57, (.iload_n 2, 1), (2, 0, 0, 0)), (57, 60, (.putfield 114, 3), (7, 35, 0, 0)), (60, 61, (.aload_n 0, 1), (0, 0, 0, 0)), (61, 64, (.invokevirtual 129, 3), (135, 0, 0, 7)), (64, 65, (.return_, 1), (0, 0, 0, 0))], [], [], (0, 7), [])
def mc_X6_selects : mg_C := ([(0, 1, (.aload_n 0, 1), (0, 0, 0, 0)), (1, 2, (.aload_n 0, 1), (0, 0, 0, 0)), (2, 5, (.getfield 105, 3), (7, 32, 0, 0)), (5, 8, (.putfield 132, 3), (7, 21, 0, 0)), (8, 9, (.aload_n 0, 1), (0, 0, 0, 0)), (9, 10, (.aload_n 0, 1), (0, 0, 0, 0)), (10, 13, (.getfield 108, 3), (7, 33, 0, 0)), (13, 16, (.putfield 135, 3), (7, 22, 0, 0)), (16, 17, (.aload_n 0, 1), (0, 0, 0, 0)), (17, 18, (.aload_n 0, 1), (0, 0, 0, 0)), (18, 21, (.getfield 111, 3), (7, 34, 0, 0)), (21, 24, (.putfield 138, 3), (7, 23, 0, 0)), (24, 25, (.aload_n 0, 1), (0, 0, 0, 0)), (25, 26, (.aload_n 0, 1), (0, 0, 0, 0)), (26, 29, (.getfield 114, 3), (7, 35, 0, 0)), (29, 32, (.putfield 141, 3), (7, 24, 0, 0)), (32, 33, (.return_, 1), (0, 0, 0, 0))], [], [], (0, 7), [])
def mc_X6_startsAnew : mg_C := ([(0, 1, (.aload_n 0, 1), (0, 0, 0, 0)), (1, 2, (.iconst 0, 1), (0, 0, 0, 0)), (2, 3, (.iconst 0, 1), (0, 0, 0, 0)), (3, 4, (.iconst 0, 1), (0, 0, 0, 0)), (4, 5, (.iconst 0, 1), (0, 0, 0, 0)), (5, 8, (.invokevirtual 144, 3), (136, 4, 0, 7)), (8, 9, (.aload_n 0, 1), (0, 0, 0, 0)), (9, 12, (.invokevirtual 148, 3), (137, 0, 0, 7)), (12, 13, (.return_, 1), (0, 0, 0, 0))], [], [], (0, 7), [])
def mc_X6_isChosen : mg_C := ([(0, 1, (.iconst 0, 1), (0, 0, 0, 0)), (1, 2, (.istore_n 2, 1), (2, 0, 0, 0)), (2, 3, (.aload_n 0, 1), (0, 0, 0, 0)), (3, 6, (.getfield 132, 3), (7, 21, 0, 0)), (6, 7, (.istore_n 3, 1), (3, 0, 0, 0)), (7, 8, (.iload_n 3, 1), (3, 0, 0, 0)), (8, 9, (.aload_n 0, 1), (0, 0, 0, 0)), (9, 12, (.getfield 135, 3), (7, 22, 0, 0)), (12, 15, (.if_icmp .gt 51, 3), (63, 0, 0, 0)), (15, 16, (.aload_n 0, 1), (0, 0, 0, 0)), (16, 19, (.getfield 138, 3), (7, 23, 0, 0)), (19, 21, (.istore 4, 2), (4, 0, 0, 0)), (21, 23, (.iload 4, 2), (4, 0, 0, 0)), (23, 24, (.aload_n 0, 1), (0, 0, 0, 0)), (24, 27, (.getfield 141, 3), (7, 24, 0, 0)), (27, 30, (.if_icmp .gt 30, 3), (57, 0, 0, 0)), (30, 31, (.iload_n 2, 1), (2, 0, 0, 0)), (31, 34, (.ifCond .ne 14, 3), (45, 0, 0, 0)), (34, 35, (.aload_n 0, 1), (0, 0, 0, 0)), (35, 36, (.iload_n 3, 1), (3, 0, 0, 0)), (36, 38, (.iload 4, 2), (4, 0, 0, 0)), (38, 41, (.invokevirtual 81, 3), (128, 2, 0, 7)), (41, 42, (.iload_n 1, 1), (1, 0, 0, 0)), (42, 45, (.if_icmp .ne 7, 3), (49, 0, 0, 0)), (45, 46, (.iconst 1, 1), (0, 0, 0, 0)), (46, 49, (.goto 4, 3), (50, 0, 0, 0)), (49, 50, (.iconst 0, 1), (0, 0, 0, 0)), (50, 51, (.istore_n 2, 1), (2, 0, 0, 0)), (51, 54, (.iinc 4 1, 3), (4, 0, 0, 0)), (54, 57, (.goto (-33), 3), (21, 0, 0, 0)), (57, 60, (.iinc 3 1, 3), (3, 0, 0, 0)), (60, 63, (.goto (-53), 3), (7, 0, 0, 0)), (63, 64, (.iload_n 2, 1), (2, 0, 0, 0)), (64, 65, (.ireturn, 1), (0, 0, 0, 0))], [(7, [0, 1, 2, 3]), (21, [0, 1, 2, 3, 4])], [], (2, 7), [])
def mc_X6_rows : mg_C := ([(0, 1, (.aload_n 0, 1), (0, 0, 0, 0)), (1, 2, (.iconst 0, 1), (0, 0, 0, 0)), (2, 5, (.putfield 71, 3), (7, 0, 0, 0)), (5, 6, (.aload_n 0, 1), (0, 0, 0, 0)), (6, 9, (.getfield 7, 3), (7, 1, 0, 0)), (9, 10, (.ireturn, 1), (0, 0, 0, 0))], [], [], (1, 7), [])
def mc_X6_columns : mg_C := ([(0, 1, (.aload_n 0, 1), (0, 0, 0, 0)), (1, 2, (.iconst 0, 1), (0, 0, 0, 0)), (2, 5, (.putfield 71, 3), (7, 0, 0, 0)), (5, 6, (.aload_n 0, 1), (0, 0, 0, 0)), (6, 9, (.getfield 13, 3), (7, 2, 0, 0)), (9, 10, (.ireturn, 1), (0, 0, 0, 0))], [], [], (1, 7), [])
def mc_X6_cellCount : mg_C := ([(0, 1, (.aload_n 0, 1), (0, 0, 0, 0)), (1, 2, (.iconst 0, 1), (0, 0, 0, 0)), (2, 5, (.putfield 71, 3), (7, 0, 0, 0)), (5, 6, (.aload_n 0, 1), (0, 0, 0, 0)), (6, 9, (.getfield 78, 3), (7, 4, 0, 0)), (9, 10, (.ireturn, 1), (0, 0, 0, 0))], [], [], (1, 7), [])
def mc_X6_cellsBySquares : mg_C := ([(0, 1, (.aload_n 0, 1), (0, 0, 0, 0)), (1, 2, (.iconst 0, 1), (0, 0, 0, 0)), (2, 5, (.putfield 71, 3), (7, 0, 0, 0)), (5, 6, (.aload_n 0, 1), (0, 0, 0, 0)), (6, 9, (.getfield 78, 3), (7, 4, 0, 0)), (9, 10, (.ireturn, 1), (0, 0, 0, 0))], [], [], (1, 7), [])
def mc_X6_putsAside : mg_C := ([(0, 1, (.iconst 0, 1), (0, 0, 0, 0)), (1, 2, (.istore_n 1, 1), (1, 0, 0, 0)), (2, 3, (.iload_n 1, 1), (1, 0, 0, 0)), (3, 5, (.bipush 120, 2), (0, 0, 0, 0)), (5, 8, (.if_icmp .ge 21, 3), (26, 0, 0, 0)), (8, 9, (.aload_n 0, 1), (0, 0, 0, 0)), (9, 12, (.getfield 47, 3), (7, 19, 1, 0)), (12, 13, (.iload_n 1, 1), (1, 0, 0, 0)), (13, 14, (.aload_n 0, 1), (0, 0, 0, 0)), (14, 17, (.getfield 16, 3), (7, 5, 1, 0)), (17, 18, (.iload_n 1, 1), (1, 0, 0, 0)), (18, 19, (.iaload, 1), (8, 0, 0, 0)), (19, 20, (.iastore, 1), (0, 0, 0, 0)), (20, 23, (.iinc 1 1, 3), (1, 0, 0, 0)), (23, 26, (.goto (-21), 3), (2, 0, 0, 0)), (26, 27, (.return_, 1), (0, 0, 0, 0))], [(2, [0, 1])], [], (0, 7), [])
def mc_X6_freshens : mg_C := ([(0, 2, (.bipush 120, 2), (0, 0, 0, 0)), (2, 3, (.istore_n 1, 1), (1, 0, 0, 0)), (3, 4, (.iload_n 1, 1), (1, 0, 0, 0)), (4, 7, (.sipush 140, 3), (0, 0, 0, 0)), (7, 10, (.if_icmp .ge 23, 3), (30, 0, 0, 0)), (10, 11, (.aload_n 0, 1), (0, 0, 0, 0)), (11, 14, (.getfield 20, 3), (7, 6, 1, 0)), (14, 15, (.iload_n 1, 1), (1, 0, 0, 0)), (15, 16, (.iconst 0, 1), (0, 0, 0, 0)), (16, 17, (.iastore, 1), (0, 0, 0, 0)), (17, 18, (.aload_n 0, 1), (0, 0, 0, 0)), (18, 21, (.getfield 23, 3), (7, 7, 1, 0)), (21, 22, (.iload_n 1, 1), (1, 0, 0, 0)), (22, 23, (.iconst 0, 1), (0, 0, 0, 0)), (23, 24, (.iastore, 1), (0, 0, 0, 0)), (24, 27, (.iinc 1 1, 3), (1, 0, 0, 0)), (27, 30, (.goto (-24), 3), (3, 0, 0, 0)), (30, 31, (.return_, 1), (0, 0, 0, 0))], [(3, [0, 1])], [], (0, 7), [])
def mc_X6_insertRow : mg_C := ([(0, 1, (.aload_n 0, 1), (0, 0, 0, 0)), (1, 2, (.iload_n 1, 1), (1, 0, 0, 0)), (2, 3, (.iconst 0, 1), (0, 0, 0, 0)), (3, 4, (.aload_n 0, 1), (0, 0, 0, 0)), (4, 7, (.getfield 7, 3), (7, 1, 0, 0)), (7, 10, (.invokestatic 74, 3), (126, 3, 0, 0)), (10, 13, (.ifCond .ne 7, 3), (17, 0, 0, 0)), (13, 14, (.iconst 1, 1), (0, 0, 0, 0)), (14, 17, (.goto 17, 3), (31, 0, 0, 0)), (17, 18, (.aload_n 0, 1), (0, 0, 0, 0)), (18, 21, (.getfield 7, 3), (7, 1, 0, 0)), (21, 23, (.bipush 12, 2), (0, 0, 0, 0)), (23, 26, (.if_icmp .ne 7, 3), (30, 0, 0, 0)), (26, 27, (.iconst 2, 1), (0, 0, 0, 0)), (27, 30, (.goto 4, 3), (31, 0, 0, 0)), (30, 31, (.iconst 0, 1), (0, 0, 0, 0)), (31, 34, (.invokevirtual 151, 3), (125, 1, 0, 7)), (34, 37, (.ifCond .eq 5, 3), (39, 0, 0, 0)), (37, 38, (.iconst 0, 1), (0, 0, 0, 0)), (38, 39, (.ireturn, 1), (0, 0, 0, 0)), (39, 40, (.aload_n 0, 1), (0, 0, 0, 0)), (40, 43, (.invokevirtual 154, 3), (131, 0, 0, 7)), (43, 44, (.aload_n 0, 1), (0, 0, 0, 0)), (44, 47, (.invokevirtual 157, 3), (144, 0, 0, 7)), (47, 48, (.aload_n 0, 1), (0, 0, 0, 0)), (48, 51, (.invokevirtual 160, 3), (145, 0, 0, 7)), (51, 52, (.aload_n 0, 1), (0, 0, 0, 0)), (52, 55, (.getfield 7, 3), (7, 1, 0, 0)), (55, 56, (.istore_n 2, 1), (2, 0, 0, 0)), (56, 57, (.iload_n 2, 1), (2, 0, 0, 0)), (57, 58, (.iload_n 1, 1), (1, 0, 0, 0)), (58, 61, (.if_icmp .le 63, 3), (121, 0, 0, 0)), (61, 62, (.aload_n 0, 1), (0, 0, 0, 0)), (62, 65, (.getfield 29, 3), (7, 9, 1, 0)), (65, 66, (.iload_n 2, 1), (2, 0, 0, 0)), (66, 67, (.aload_n 0, 1), (0, 0, 0, 0)), (67, 70, (.getfield 29, 3), (7, 9, 1, 0)), (70, 71, (.iload_n 2, 1), (2, 0, 0, 0)), (71, 72, (.iconst 1, 1), (0, 0, 0, 0)), (72, 73, (.isub, 1), (0, 0, 0, 0)), (73, 74, (.iaload, 1), (8, 0, 0, 0)), (74, 75, (.iastore, 1), (0, 0, 0, 0)), (75, 76, (.iconst 0, 1), (0, 0, 0, 0)), (76, 77, (.istore_n 3, 1), (3, 0, 0, 0)), (77, 78, (.iload_n 3, 1), (3, 0, 0, 0)), (78, 79, (.aload_n 0, 1), (0, 0, 0, 0)), (79, 82, (.getfield 13, 3), (7, 2, 0, 0)), (82, 85, (.if_icmp .ge 33, 3), (115, 0, 0, 0)), (85, 86, (.aload_n 0, 1), (0, 0, 0, 0)), (86, 89, (.getfield 16, 3), (7, 5, 1, 0)), (89, 91, (.bipush 10, 2), (0, 0, 0, 0)), (91, 92, (.iload_n 2, 1), (2, 0, 0, 0)), (92, 93, (.imul, 1), (0, 0, 0, 0)), (93, 94, (.iload_n 3, 1), (3, 0, 0, 0)), (94, 95, (.iadd, 1), (0, 0, 0, 0)), (95, 96, (.aload_n 0, 1), (0, 0, 0, 0)), (96, 99, (.getfield 47, 3), (7, 19, 1, 0)), (99, 101, (.bipush 10, 2), (0, 0, 0, 0)), (101, 102, (.iload_n 2, 1), (2, 0, 0, 0)), (102, 103, (.iconst 1, 1), (0, 0, 0, 0)), (103, 104, (.isub, 1), (0, 0, 0, 0)), (104, 105, (.imul, 1), (0, 0, 0, 0)), (105, 106, (.iload_n 3, 1), (3, 0, 0, 0)), (106, 107, (.iadd, 1), (0, 0, 0, 0)), (107, 108, (.iaload, 1), (8, 0, 0, 0)), (108, 109, (.iastore, 1), (0, 0, 0, 0)), (109, 112, (.iinc 3 1, 3), (3, 0, 0, 0)), (112, 115, (.goto (-35), 3), (77, 0, 0, 0)), (115, 118, (.iinc 2 (-1), 3), (2, 0, 0, 0)), (118, 121, (.goto (-62), 3), (56, 0, 0, 0)), (121, 122, (.aload_n 0, 1), (0, 0, 0, 0)), (122, 125, (.getfield 29, 3), (7, 9, 1, 0)), (125, 126, (.iload_n 1, 1), (1, 0, 0, 0)), (126, 128, (.bipush 20, 2), (0, 0, 0, 0)), (128, 129, (.iastore, 1), (0, 0, 0, 0)), (129, 130, (.iconst 0, 1), (0, 0, 0, 0)), (130, 131, (.istore_n 2, 1), (2, 0, 0, 0)), (131, 132, (.iload_n 2, 1), (2, 0, 0, 0)), (132, 133, (.aload_n 0, 1), (0, 0, 0, 0)), (133, 136, (.getfield 13, 3), (7, 2, 0, 0)), (136, 139, (.if_icmp .ge 87, 3), (223, 0, 0, 0)), (139, 140, (.iload_n 1, 1), (1, 0, 0, 0)), (140, 143, (.ifCond .le 42, 3), (182, 0, 0, 0)), (143, 144, (.iload_n 1, 1), (1, 0, 0, 0)), (144, 145, (.aload_n 0, 1), (0, 0, 0, 0)), (145, 148, (.getfield 7, 3), (7, 1, 0, 0)), (148, 151, (.if_icmp .ge 34, 3), (182, 0, 0, 0)), (151, 152, (.aload_n 0, 1), (0, 0, 0, 0)), (152, 155, (.getfield 47, 3), (7, 19, 1, 0)), (155, 157, (.bipush 10, 2), (0, 0, 0, 0)), (157, 158, (.iload_n 1, 1), (1, 0, 0, 0)), (158, 159, (.iconst 1, 1), (0, 0, 0, 0)), (159, 160, (.isub, 1), (0, 0, 0, 0)), (160, 161, (.imul, 1), (0, 0, 0, 0)), (161, 162, (.iload_n 2, 1), (2, 0, 0, 0)), (162, 163, (.iadd, 1), (0, 0, 0, 0)), (163, 164, (.iaload, 1), (8, 0, 0, 0)), (164, 165, (.aload_n 0, 1), (0, 0, 0, 0)), (165, 168, (.getfield 47, 3), (7, 19, 1, 0)), (168, 170, (.bipush 10, 2), (0, 0, 0, 0)), (170, 171, (.iload_n 1, 1), (1, 0, 0, 0)), (171, 172, (.imul, 1), (0, 0, 0, 0)), (172, 173, (.iload_n 2, 1), (2, 0, 0, 0)), (173, 174, (.iadd, 1), (0, 0, 0, 0)), (174, 175, (.iaload, 1), (8, 0, 0, 0)), (175, 178, (.if_icmp .ne 7, 3), (182, 0, 0, 0)), (178, 179, (.iconst 1, 1), (0, 0, 0, 0)), (179, 182, (.goto 4, 3), (183, 0, 0, 0)), (182, 183, (.iconst 0, 1), (0, 0, 0, 0)), (183, 184, (.istore_n 3, 1), (3, 0, 0, 0)), (184, 185, (.aload_n 0, 1), (0, 0, 0, 0)), (185, 188, (.getfield 16, 3), (7, 5, 1, 0)), (188, 190, (.bipush 10, 2), (0, 0, 0, 0)), (190, 191, (.iload_n 1, 1), (1, 0, 0, 0)), (191, 192, (.imul, 1), (0, 0, 0, 0)), (192, 193, (.iload_n 2, 1), (2, 0, 0, 0)), (193, 194, (.iadd, 1), (0, 0, 0, 0)), (194, 195, (.iload_n 3, 1), (3, 0, 0, 0)), (195, 198, (.ifCond .eq 17, 3), (212, 0, 0, 0)), (198, 199, (.aload_n 0, 1), (0, 0, 0, 0)), (199, 202, (.getfield 47, 3), (7, 19, 1, 0)), (202, 204, (.bipush 10, 2), (0, 0, 0, 0)), (204, 205, (.iload_n 1, 1), (1, 0, 0, 0)), (205, 206, (.imul, 1), (0, 0, 0, 0)), (206, 207, (.iload_n 2, 1), (2, 0, 0, 0)), (207, 208, (.iadd, 1), (0, 0, 0, 0)), (208, 209, (.iaload, 1), (8, 0, 0, 0)), (209, 212, (.goto 7, 3), (216, 0, 0, 0)), (212, 214, (.bipush 120, 2), (0, 0, 0, 0)), (214, 215, (.iload_n 2, 1), (2, 0, 0, 0)), (215, 216, (.iadd, 1), (0, 0, 0, 0)), (216, 217, (.iastore, 1), (0, 0, 0, 0)), (217, 220, (.iinc 2 1, 3), (2, 0, 0, 0)), (220, 223, (.goto (-89), 3), (131, 0, 0, 0)), (223, 224, (.aload_n 0, 1), (0, 0, 0, 0)), (224, 225, (.dup, 1), (0, 0, 0, 0)), (225, 228, (.getfield 7, 3), (7, 1, 0, 0)), (228, 229, (.iconst 1, 1), (0, 0, 0, 0)), (229, 230, (.iadd, 1), (0, 0, 0, 0)), (230, 233, (.putfield 7, 3), (7, 1, 0, 0)), (233, 234, (.aload_n 0, 1), (0, 0, 0, 0)), (234, 235, (.dup, 1), (0, 0, 0, 0)), (235, 238, (.getfield 99, 3), (7, 3, 0, 0)), (238, 239, (.iload_n 1, 1), (1, 0, 0, 0)), (239, 240, (.aload_n 0, 1), (0, 0, 0, 0)), (240, 243, (.getfield 99, 3), (7, 3, 0, 0)), (243, 246, (.if_icmp .ge 7, 3), (250, 0, 0, 0)), (246, 247, (.iconst 1, 1), (0, 0, 0, 0)), (247, 250, (.goto 4, 3), (251, 0, 0, 0)), (250, 251, (.iconst 0, 1), (0, 0, 0, 0)), (251, 252, (.iadd, 1), (0, 0, 0, 0)), (252, 255, (.putfield 99, 3), (7, 3, 0, 0)), (255, 256, (.aload_n 0, 1), (0, 0, 0, 0)), (256, 259, (.invokevirtual 68, 3), (129, 0, 0, 7)), (259, 260, (.aload_n 0, 1), (0, 0, 0, 0)), (260, 263, (.invokevirtual 163, 3), (138, 0, 0, 7)), (263, 264, (.aload_n 0, 1), (0, 0, 0, 0)), (264, 267, (.getfield 78, 3), (7, 4, 0, 0)), (267, 268, (.ireturn, 1), (0, 0, 0, 0))], [(56, [0, 1, 2]), (77, [0, 1, 2, 3]), (131, [0, 1, 2])], [], (1, 7), [])
def mc_X6_insertColumn : mg_C := ([(0, 1, (.aload_n 0, 1), (0, 0, 0, 0)), (1, 2, (.iload_n 1, 1), (1, 0, 0, 0)), (2, 3, (.iconst 0, 1), (0, 0, 0, 0)), (3, 4, (.aload_n 0, 1), (0, 0, 0, 0)), (4, 7, (.getfield 13, 3), (7, 2, 0, 0)), (7, 10, (.invokestatic 74, 3), (126, 3, 0, 0)), (10, 13, (.ifCond .ne 7, 3), (17, 0, 0, 0)), (13, 14, (.iconst 1, 1), (0, 0, 0, 0)), (14, 17, (.goto 17, 3), (31, 0, 0, 0)), (17, 18, (.aload_n 0, 1), (0, 0, 0, 0)), (18, 21, (.getfield 13, 3), (7, 2, 0, 0)), (21, 23, (.bipush 10, 2), (0, 0, 0, 0)), (23, 26, (.if_icmp .ne 7, 3), (30, 0, 0, 0)), (26, 27, (.iconst 2, 1), (0, 0, 0, 0)), (27, 30, (.goto 4, 3), (31, 0, 0, 0)), (30, 31, (.iconst 0, 1), (0, 0, 0, 0)), (31, 34, (.invokevirtual 151, 3), (125, 1, 0, 7)), (34, 37, (.ifCond .eq 5, 3), (39, 0, 0, 0)), (37, 38, (.iconst 0, 1), (0, 0, 0, 0)), (38, 39, (.ireturn, 1), (0, 0, 0, 0)), (39, 40, (.aload_n 0, 1), (0, 0, 0, 0)), (40, 43, (.invokevirtual 154, 3), (131, 0, 0, 7)), (43, 44, (.aload_n 0, 1), (0, 0, 0, 0)), (44, 47, (.invokevirtual 157, 3), (144, 0, 0, 7)), (47, 48, (.aload_n 0, 1), (0, 0, 0, 0)), (48, 51, (.invokevirtual 160, 3), (145, 0, 0, 7)), (51, 52, (.aload_n 0, 1), (0, 0, 0, 0)), (52, 55, (.getfield 13, 3), (7, 2, 0, 0)), (55, 56, (.istore_n 2, 1), (2, 0, 0, 0)), (56, 57, (.iload_n 2, 1), (2, 0, 0, 0)), (57, 58, (.iload_n 1, 1), (1, 0, 0, 0)), (58, 61, (.if_icmp .le 63, 3), (121, 0, 0, 0)), (61, 62, (.aload_n 0, 1), (0, 0, 0, 0)), (62, 65, (.getfield 26, 3), (7, 8, 1, 0)), (65, 66, (.iload_n 2, 1), (2, 0, 0, 0)), (66, 67, (.aload_n 0, 1), (0, 0, 0, 0)), (67, 70, (.getfield 26, 3), (7, 8, 1, 0)), (70, 71, (.iload_n 2, 1), (2, 0, 0, 0)), (71, 72, (.iconst 1, 1), (0, 0, 0, 0)), (72, 73, (.isub, 1), (0, 0, 0, 0)), (73, 74, (.iaload, 1), (8, 0, 0, 0)), (74, 75, (.iastore, 1), (0, 0, 0, 0)), (75, 76, (.iconst 0, 1), (0, 0, 0, 0)), (76, 77, (.istore_n 3, 1), (3, 0, 0, 0)), (77, 78, (.iload_n 3, 1), (3, 0, 0, 0)), (78, 79, (.aload_n 0, 1), (0, 0, 0, 0)), (79, 82, (.getfield 7, 3), (7, 1, 0, 0)), (82, 85, (.if_icmp .ge 33, 3), (115, 0, 0, 0)), (85, 86, (.aload_n 0, 1), (0, 0, 0, 0)), (86, 89, (.getfield 16, 3), (7, 5, 1, 0)), (89, 91, (.bipush 10, 2), (0, 0, 0, 0)), (91, 92, (.iload_n 3, 1), (3, 0, 0, 0)), (92, 93, (.imul, 1), (0, 0, 0, 0)), (93, 94, (.iload_n 2, 1), (2, 0, 0, 0)), (94, 95, (.iadd, 1), (0, 0, 0, 0)), (95, 96, (.aload_n 0, 1), (0, 0, 0, 0)), (96, 99, (.getfield 47, 3), (7, 19, 1, 0)), (99, 101, (.bipush 10, 2), (0, 0, 0, 0)), (101, 102, (.iload_n 3, 1), (3, 0, 0, 0)), (102, 103, (.imul, 1), (0, 0, 0, 0)), (103, 104, (.iload_n 2, 1), (2, 0, 0, 0)), (104, 105, (.iadd, 1), (0, 0, 0, 0)), (105, 106, (.iconst 1, 1), (0, 0, 0, 0)), (106, 107, (.isub, 1), (0, 0, 0, 0)), (107, 108, (.iaload, 1), (8, 0, 0, 0)), (108, 109, (.iastore, 1), (0, 0, 0, 0)), (109, 112, (.iinc 3 1, 3), (3, 0, 0, 0)), (112, 115, (.goto (-35), 3), (77, 0, 0, 0)), (115, 118, (.iinc 2 (-1), 3), (2, 0, 0, 0)), (118, 121, (.goto (-62), 3), (56, 0, 0, 0)), (121, 122, (.aload_n 0, 1), (0, 0, 0, 0)), (122, 125, (.getfield 26, 3), (7, 8, 1, 0)), (125, 126, (.iload_n 1, 1), (1, 0, 0, 0)), (126, 128, (.bipush 50, 2), (0, 0, 0, 0)), (128, 129, (.iastore, 1), (0, 0, 0, 0)), (129, 130, (.iconst 0, 1), (0, 0, 0, 0)), (130, 131, (.istore_n 2, 1), (2, 0, 0, 0)), (131, 132, (.iload_n 2, 1), (2, 0, 0, 0)), (132, 133, (.aload_n 0, 1), (0, 0, 0, 0)), (133, 136, (.getfield 7, 3), (7, 1, 0, 0)), (136, 139, (.if_icmp .ge 87, 3), (223, 0, 0, 0)), (139, 140, (.iload_n 1, 1), (1, 0, 0, 0)), (140, 143, (.ifCond .le 42, 3), (182, 0, 0, 0)), (143, 144, (.iload_n 1, 1), (1, 0, 0, 0)), (144, 145, (.aload_n 0, 1), (0, 0, 0, 0)), (145, 148, (.getfield 13, 3), (7, 2, 0, 0)), (148, 151, (.if_icmp .ge 34, 3), (182, 0, 0, 0)), (151, 152, (.aload_n 0, 1), (0, 0, 0, 0)), (152, 155, (.getfield 47, 3), (7, 19, 1, 0)), (155, 157, (.bipush 10, 2), (0, 0, 0, 0)), (157, 158, (.iload_n 2, 1), (2, 0, 0, 0)), (158, 159, (.imul, 1), (0, 0, 0, 0)), (159, 160, (.iload_n 1, 1), (1, 0, 0, 0)), (160, 161, (.iadd, 1), (0, 0, 0, 0)), (161, 162, (.iconst 1, 1), (0, 0, 0, 0)), (162, 163, (.isub, 1), (0, 0, 0, 0)), (163, 164, (.iaload, 1), (8, 0, 0, 0)), (164, 165, (.aload_n 0, 1), (0, 0, 0, 0)), (165, 168, (.getfield 47, 3), (7, 19, 1, 0)), (168, 170, (.bipush 10, 2), (0, 0, 0, 0)), (170, 171, (.iload_n 2, 1), (2, 0, 0, 0)), (171, 172, (.imul, 1), (0, 0, 0, 0)), (172, 173, (.iload_n 1, 1), (1, 0, 0, 0)), (173, 174, (.iadd, 1), (0, 0, 0, 0)), (174, 175, (.iaload, 1), (8, 0, 0, 0)), (175, 178, (.if_icmp .ne 7, 3), (182, 0, 0, 0)), (178, 179, (.iconst 1, 1), (0, 0, 0, 0)), (179, 182, (.goto 4, 3), (183, 0, 0, 0)), (182, 183, (.iconst 0, 1), (0, 0, 0, 0)), (183, 184, (.istore_n 3, 1), (3, 0, 0, 0)), (184, 185, (.aload_n 0, 1), (0, 0, 0, 0)), (185, 188, (.getfield 16, 3), (7, 5, 1, 0)), (188, 190, (.bipush 10, 2), (0, 0, 0, 0)), (190, 191, (.iload_n 2, 1), (2, 0, 0, 0)), (191, 192, (.imul, 1), (0, 0, 0, 0)), (192, 193, (.iload_n 1, 1), (1, 0, 0, 0)), (193, 194, (.iadd, 1), (0, 0, 0, 0)), (194, 195, (.iload_n 3, 1), (3, 0, 0, 0)), (195, 198, (.ifCond .eq 17, 3), (212, 0, 0, 0)), (198, 199, (.aload_n 0, 1), (0, 0, 0, 0)), (199, 202, (.getfield 47, 3), (7, 19, 1, 0)), (202, 204, (.bipush 10, 2), (0, 0, 0, 0)), (204, 205, (.iload_n 2, 1), (2, 0, 0, 0)), (205, 206, (.imul, 1), (0, 0, 0, 0)), (206, 207, (.iload_n 1, 1), (1, 0, 0, 0)), (207, 208, (.iadd, 1), (0, 0, 0, 0)), (208, 209, (.iaload, 1), (8, 0, 0, 0)), (209, 212, (.goto 7, 3), (216, 0, 0, 0)), (212, 214, (.bipush 120, 2), (0, 0, 0, 0)), (214, 215, (.iload_n 2, 1), (2, 0, 0, 0)), (215, 216, (.iadd, 1), (0, 0, 0, 0)), (216, 217, (.iastore, 1), (0, 0, 0, 0)), (217, 220, (.iinc 2 1, 3), (2, 0, 0, 0)), (220, 223, (.goto (-89), 3), (131, 0, 0, 0)), (223, 224, (.aload_n 0, 1), (0, 0, 0, 0)), (224, 225, (.dup, 1), (0, 0, 0, 0)), (225, 228, (.getfield 13, 3), (7, 2, 0, 0)), (228, 229, (.iconst 1, 1), (0, 0, 0, 0)), (229, 230, (.iadd, 1), (0, 0, 0, 0)), (230, 233, (.putfield 13, 3), (7, 2, 0, 0)), (233, 234, (.aload_n 0, 1), (0, 0, 0, 0)), (234, 237, (.invokevirtual 68, 3), (129, 0, 0, 7)), (237, 238, (.aload_n 0, 1), (0, 0, 0, 0)), (238, 241, (.invokevirtual 163, 3), (138, 0, 0, 7)), (241, 242, (.aload_n 0, 1), (0, 0, 0, 0)), (242, 245, (.getfield 78, 3), (7, 4, 0, 0)), (245, 246, (.ireturn, 1), (0, 0, 0, 0))], [(56, [0, 1, 2]), (77, [0, 1, 2, 3]), (131, [0, 1, 2])], [], (1, 7), [])
def mc_X6_deleteRow : mg_C := ([(0, 1, (.aload_n 0, 1), (0, 0, 0, 0)), (1, 2, (.iload_n 1, 1), (1, 0, 0, 0)), (2, 3, (.iconst 0, 1), (0, 0, 0, 0)), (3, 4, (.aload_n 0, 1), (0, 0, 0, 0)), (4, 7, (.getfield 7, 3), (7, 1, 0, 0)), (7, 8, (.iconst 1, 1), (0, 0, 0, 0)), (8, 9, (.isub, 1), (0, 0, 0, 0)), (9, 12, (.invokestatic 74, 3), (126, 3, 0, 0)), (12, 15, (.ifCond .ne 7, 3), (19, 0, 0, 0)), (15, 16, (.iconst 1, 1), (0, 0, 0, 0)), (16, 19, (.goto 16, 3), (32, 0, 0, 0)), (19, 20, (.aload_n 0, 1), (0, 0, 0, 0)), (20, 23, (.getfield 7, 3), (7, 1, 0, 0)), (23, 24, (.iconst 1, 1), (0, 0, 0, 0)), (24, 27, (.if_icmp .ne 7, 3), (31, 0, 0, 0)), (27, 28, (.iconst 2, 1), (0, 0, 0, 0)), (28, 31, (.goto 4, 3), (32, 0, 0, 0)), (31, 32, (.iconst 0, 1), (0, 0, 0, 0)), (32, 35, (.invokevirtual 151, 3), (125, 1, 0, 7)), (35, 38, (.ifCond .eq 5, 3), (40, 0, 0, 0)), (38, 39, (.iconst 0, 1), (0, 0, 0, 0)), (39, 40, (.ireturn, 1), (0, 0, 0, 0)), (40, 41, (.aload_n 0, 1), (0, 0, 0, 0)), (41, 44, (.invokevirtual 154, 3), (131, 0, 0, 7)), (44, 45, (.iload_n 1, 1), (1, 0, 0, 0)), (45, 46, (.istore_n 2, 1), (2, 0, 0, 0)), (46, 47, (.iload_n 2, 1), (2, 0, 0, 0)), (47, 48, (.aload_n 0, 1), (0, 0, 0, 0)), (48, 51, (.getfield 7, 3), (7, 1, 0, 0)), (51, 52, (.iconst 1, 1), (0, 0, 0, 0)), (52, 53, (.isub, 1), (0, 0, 0, 0)), (53, 56, (.if_icmp .ge 63, 3), (116, 0, 0, 0)), (56, 57, (.aload_n 0, 1), (0, 0, 0, 0)), (57, 60, (.getfield 29, 3), (7, 9, 1, 0)), (60, 61, (.iload_n 2, 1), (2, 0, 0, 0)), (61, 62, (.aload_n 0, 1), (0, 0, 0, 0)), (62, 65, (.getfield 29, 3), (7, 9, 1, 0)), (65, 66, (.iload_n 2, 1), (2, 0, 0, 0)), (66, 67, (.iconst 1, 1), (0, 0, 0, 0)), (67, 68, (.iadd, 1), (0, 0, 0, 0)), (68, 69, (.iaload, 1), (8, 0, 0, 0)), (69, 70, (.iastore, 1), (0, 0, 0, 0)), (70, 71, (.iconst 0, 1), (0, 0, 0, 0)), (71, 72, (.istore_n 3, 1), (3, 0, 0, 0)), (72, 73, (.iload_n 3, 1), (3, 0, 0, 0)), (73, 74, (.aload_n 0, 1), (0, 0, 0, 0)), (74, 77, (.getfield 13, 3), (7, 2, 0, 0)), (77, 80, (.if_icmp .ge 33, 3), (110, 0, 0, 0)), (80, 81, (.aload_n 0, 1), (0, 0, 0, 0)), (81, 84, (.getfield 16, 3), (7, 5, 1, 0)), (84, 86, (.bipush 10, 2), (0, 0, 0, 0)), (86, 87, (.iload_n 2, 1), (2, 0, 0, 0)), (87, 88, (.imul, 1), (0, 0, 0, 0)), (88, 89, (.iload_n 3, 1), (3, 0, 0, 0)), (89, 90, (.iadd, 1), (0, 0, 0, 0)), (90, 91, (.aload_n 0, 1), (0, 0, 0, 0)), (91, 94, (.getfield 16, 3), (7, 5, 1, 0)), (94, 96, (.bipush 10, 2), (0, 0, 0, 0)), (96, 97, (.iload_n 2, 1), (2, 0, 0, 0)), (97, 98, (.iconst 1, 1), (0, 0, 0, 0)), (98, 99, (.iadd, 1), (0, 0, 0, 0)), (99, 100, (.imul, 1), (0, 0, 0, 0)), (100, 101, (.iload_n 3, 1), (3, 0, 0, 0)), (101, 102, (.iadd, 1), (0, 0, 0, 0)), (102, 103, (.iaload, 1), (8, 0, 0, 0)), (103, 104, (.iastore, 1), (0, 0, 0, 0)), (104, 107, (.iinc 3 1, 3), (3, 0, 0, 0)), (107, 110, (.goto (-35), 3), (72, 0, 0, 0)), (110, 113, (.iinc 2 1, 3), (2, 0, 0, 0)), (113, 116, (.goto (-67), 3), (46, 0, 0, 0)), (116, 117, (.aload_n 0, 1), (0, 0, 0, 0)), (117, 118, (.dup, 1), (0, 0, 0, 0)), (118, 121, (.getfield 7, 3), (7, 1, 0, 0)), (121, 122, (.iconst 1, 1), (0, 0, 0, 0)), (122, 123, (.isub, 1), (0, 0, 0, 0)), (123, 126, (.putfield 7, 3), (7, 1, 0, 0)), (126, 127, (.aload_n 0, 1), (0, 0, 0, 0)), (127, 128, (.dup, 1), (0, 0, 0, 0)), (128, 131, (.getfield 99, 3), (7, 3, 0, 0)), (131, 132, (.iload_n 1, 1), (1, 0, 0, 0)), (132, 133, (.aload_n 0, 1), (0, 0, 0, 0)), (133, 136, (.getfield 99, 3), (7, 3, 0, 0)), (136, 139, (.if_icmp .ge 7, 3), (143, 0, 0, 0)), (139, 140, (.iconst 1, 1), (0, 0, 0, 0)), (140, 143, (.goto 4, 3), (144, 0, 0, 0)), (143, 144, (.iconst 0, 1), (0, 0, 0, 0)), (144, 145, (.isub, 1), (0, 0, 0, 0)), (145, 148, (.putfield 99, 3), (7, 3, 0, 0)), (148, 149, (.aload_n 0, 1), (0, 0, 0, 0)), (149, 152, (.getfield 78, 3), (7, 4, 0, 0)), (152, 153, (.istore_n 2, 1), (2, 0, 0, 0)), (153, 154, (.aload_n 0, 1), (0, 0, 0, 0)), (154, 157, (.invokevirtual 68, 3), (129, 0, 0, 7)), (157, 158, (.aload_n 0, 1), (0, 0, 0, 0)), (158, 161, (.invokevirtual 163, 3), (138, 0, 0, 7)), (161, 162, (.iload_n 2, 1), (2, 0, 0, 0)), (162, 163, (.aload_n 0, 1), (0, 0, 0, 0)), (163, 166, (.getfield 78, 3), (7, 4, 0, 0)), (166, 167, (.isub, 1), (0, 0, 0, 0)), (167, 168, (.ireturn, 1), (0, 0, 0, 0))], [(46, [0, 1, 2]), (72, [0, 1, 2, 3])], [], (1, 7), [])
def mc_X6_deleteColumn : mg_C := ([(0, 1, (.aload_n 0, 1), (0, 0, 0, 0)), (1, 2, (.iload_n 1, 1), (1, 0, 0, 0)), (2, 3, (.iconst 0, 1), (0, 0, 0, 0)), (3, 4, (.aload_n 0, 1), (0, 0, 0, 0)), (4, 7, (.getfield 13, 3), (7, 2, 0, 0)), (7, 8, (.iconst 1, 1), (0, 0, 0, 0)), (8, 9, (.isub, 1), (0, 0, 0, 0)), (9, 12, (.invokestatic 74, 3), (126, 3, 0, 0)), (12, 15, (.ifCond .ne 7, 3), (19, 0, 0, 0)), (15, 16, (.iconst 1, 1), (0, 0, 0, 0)), (16, 19, (.goto 16, 3), (32, 0, 0, 0)), (19, 20, (.aload_n 0, 1), (0, 0, 0, 0)), (20, 23, (.getfield 13, 3), (7, 2, 0, 0)), (23, 24, (.iconst 1, 1), (0, 0, 0, 0)), (24, 27, (.if_icmp .ne 7, 3), (31, 0, 0, 0)), (27, 28, (.iconst 2, 1), (0, 0, 0, 0)), (28, 31, (.goto 4, 3), (32, 0, 0, 0)), (31, 32, (.iconst 0, 1), (0, 0, 0, 0)), (32, 35, (.invokevirtual 151, 3), (125, 1, 0, 7)), (35, 38, (.ifCond .eq 5, 3), (40, 0, 0, 0)), (38, 39, (.iconst 0, 1), (0, 0, 0, 0)), (39, 40, (.ireturn, 1), (0, 0, 0, 0)), (40, 41, (.aload_n 0, 1), (0, 0, 0, 0)), (41, 44, (.invokevirtual 154, 3), (131, 0, 0, 7)), (44, 45, (.iload_n 1, 1), (1, 0, 0, 0)), (45, 46, (.istore_n 2, 1), (2, 0, 0, 0)), (46, 47, (.iload_n 2, 1), (2, 0, 0, 0)), (47, 48, (.aload_n 0, 1), (0, 0, 0, 0)), (48, 51, (.getfield 13, 3), (7, 2, 0, 0)), (51, 52, (.iconst 1, 1), (0, 0, 0, 0)), (52, 53, (.isub, 1), (0, 0, 0, 0)), (53, 56, (.if_icmp .ge 63, 3), (116, 0, 0, 0)), (56, 57, (.aload_n 0, 1), (0, 0, 0, 0)), (57, 60, (.getfield 26, 3), (7, 8, 1, 0)), (60, 61, (.iload_n 2, 1), (2, 0, 0, 0)), (61, 62, (.aload_n 0, 1), (0, 0, 0, 0)), (62, 65, (.getfield 26, 3), (7, 8, 1, 0)), (65, 66, (.iload_n 2, 1), (2, 0, 0, 0)), (66, 67, (.iconst 1, 1), (0, 0, 0, 0)), (67, 68, (.iadd, 1), (0, 0, 0, 0)), (68, 69, (.iaload, 1), (8, 0, 0, 0)), (69, 70, (.iastore, 1), (0, 0, 0, 0)), (70, 71, (.iconst 0, 1), (0, 0, 0, 0)), (71, 72, (.istore_n 3, 1), (3, 0, 0, 0)), (72, 73, (.iload_n 3, 1), (3, 0, 0, 0)), (73, 74, (.aload_n 0, 1), (0, 0, 0, 0)), (74, 77, (.getfield 7, 3), (7, 1, 0, 0)), (77, 80, (.if_icmp .ge 33, 3), (110, 0, 0, 0)), (80, 81, (.aload_n 0, 1), (0, 0, 0, 0)), (81, 84, (.getfield 16, 3), (7, 5, 1, 0)), (84, 86, (.bipush 10, 2), (0, 0, 0, 0)), (86, 87, (.iload_n 3, 1), (3, 0, 0, 0)), (87, 88, (.imul, 1), (0, 0, 0, 0)), (88, 89, (.iload_n 2, 1), (2, 0, 0, 0)), (89, 90, (.iadd, 1), (0, 0, 0, 0)), (90, 91, (.aload_n 0, 1), (0, 0, 0, 0)), (91, 94, (.getfield 16, 3), (7, 5, 1, 0)), (94, 96, (.bipush 10, 2), (0, 0, 0, 0)), (96, 97, (.iload_n 3, 1), (3, 0, 0, 0)), (97, 98, (.imul, 1), (0, 0, 0, 0)), (98, 99, (.iload_n 2, 1), (2, 0, 0, 0)), (99, 100, (.iadd, 1), (0, 0, 0, 0)), (100, 101, (.iconst 1, 1), (0, 0, 0, 0)), (101, 102, (.iadd, 1), (0, 0, 0, 0)), (102, 103, (.iaload, 1), (8, 0, 0, 0)), (103, 104, (.iastore, 1), (0, 0, 0, 0)), (104, 107, (.iinc 3 1, 3), (3, 0, 0, 0)), (107, 110, (.goto (-35), 3), (72, 0, 0, 0)), (110, 113, (.iinc 2 1, 3), (2, 0, 0, 0)), (113, 116, (.goto (-67), 3), (46, 0, 0, 0)), (116, 117, (.aload_n 0, 1), (0, 0, 0, 0)), (117, 118, (.dup, 1), (0, 0, 0, 0)), (118, 121, (.getfield 13, 3), (7, 2, 0, 0)), (121, 122, (.iconst 1, 1), (0, 0, 0, 0)), (122, 123, (.isub, 1), (0, 0, 0, 0)), (123, 126, (.putfield 13, 3), (7, 2, 0, 0)), (126, 127, (.aload_n 0, 1), (0, 0, 0, 0)), (127, 130, (.getfield 78, 3), (7, 4, 0, 0)), (130, 131, (.istore_n 2, 1), (2, 0, 0, 0)), (131, 132, (.aload_n 0, 1), (0, 0, 0, 0)), (132, 135, (.invokevirtual 68, 3), (129, 0, 0, 7)), (135, 136, (.aload_n 0, 1), (0, 0, 0, 0)), (136, 139, (.invokevirtual 163, 3), (138, 0, 0, 7)), (139, 140, (.iload_n 2, 1), (2, 0, 0, 0)), (140, 141, (.aload_n 0, 1), (0, 0, 0, 0)), (141, 144, (.getfield 78, 3), (7, 4, 0, 0)), (144, 145, (.isub, 1), (0, 0, 0, 0)), (145, 146, (.ireturn, 1), (0, 0, 0, 0))], [(46, [0, 2]), (72, [0, 2, 3])], [], (1, 7), [])
def mc_X6_isTied : mg_C := ([(0, 1, (.iconst 0, 1), (0, 0, 0, 0)), (1, 2, (.istore_n 3, 1), (3, 0, 0, 0)), (2, 3, (.iload_n 1, 1), (1, 0, 0, 0)), (3, 5, (.istore 4, 2), (4, 0, 0, 0)), (5, 7, (.iload 4, 2), (4, 0, 0, 0)), (7, 8, (.iload_n 2, 1), (2, 0, 0, 0)), (8, 11, (.if_icmp .gt 95, 3), (103, 0, 0, 0)), (11, 12, (.iconst 0, 1), (0, 0, 0, 0)), (12, 14, (.istore 5, 2), (5, 0, 0, 0)), (14, 16, (.iload 5, 2), (5, 0, 0, 0)), (16, 17, (.aload_n 0, 1), (0, 0, 0, 0)), (17, 20, (.getfield 13, 3), (7, 2, 0, 0)), (20, 23, (.if_icmp .ge 77, 3), (97, 0, 0, 0)), (23, 24, (.iload_n 3, 1), (3, 0, 0, 0)), (24, 27, (.ifCond .ne 61, 3), (85, 0, 0, 0)), (27, 29, (.iload 4, 2), (4, 0, 0, 0)), (29, 32, (.ifCond .le 24, 3), (53, 0, 0, 0)), (32, 33, (.aload_n 0, 1), (0, 0, 0, 0)), (33, 35, (.iload 4, 2), (4, 0, 0, 0)), (35, 37, (.iload 5, 2), (5, 0, 0, 0)), (37, 40, (.invokevirtual 81, 3), (128, 2, 0, 7)), (40, 41, (.aload_n 0, 1), (0, 0, 0, 0)), (41, 43, (.iload 4, 2), (4, 0, 0, 0)), (43, 44, (.iconst 1, 1), (0, 0, 0, 0)), (44, 45, (.isub, 1), (0, 0, 0, 0)), (45, 47, (.iload 5, 2), (5, 0, 0, 0)), (47, 50, (.invokevirtual 81, 3), (128, 2, 0, 7)), (50, 53, (.if_icmp .eq 35, 3), (85, 0, 0, 0)), (53, 55, (.iload 4, 2), (4, 0, 0, 0)), (55, 56, (.aload_n 0, 1), (0, 0, 0, 0)), (56, 59, (.getfield 7, 3), (7, 1, 0, 0)), (59, 60, (.iconst 1, 1), (0, 0, 0, 0)), (60, 61, (.isub, 1), (0, 0, 0, 0)), (61, 64, (.if_icmp .ge 28, 3), (89, 0, 0, 0)), (64, 65, (.aload_n 0, 1), (0, 0, 0, 0)), (65, 67, (.iload 4, 2), (4, 0, 0, 0)), (67, 69, (.iload 5, 2), (5, 0, 0, 0)), (69, 72, (.invokevirtual 81, 3), (128, 2, 0, 7)), (72, 73, (.aload_n 0, 1), (0, 0, 0, 0)), (73, 75, (.iload 4, 2), (4, 0, 0, 0)), (75, 76, (.iconst 1, 1), (0, 0, 0, 0)), (76, 77, (.iadd, 1), (0, 0, 0, 0)), (77, 79, (.iload 5, 2), (5, 0, 0, 0)), (79, 82, (.invokevirtual 81, 3), (128, 2, 0, 7)), (82, 85, (.if_icmp .ne 7, 3), (89, 0, 0, 0)), (85, 86, (.iconst 1, 1), (0, 0, 0, 0)), (86, 89, (.goto 4, 3), (90, 0, 0, 0)), (89, 90, (.iconst 0, 1), (0, 0, 0, 0)), (90, 91, (.istore_n 3, 1), (3, 0, 0, 0)), (91, 94, (.iinc 5 1, 3), (5, 0, 0, 0)), (94, 97, (.goto (-80), 3), (14, 0, 0, 0)), (97, 100, (.iinc 4 1, 3), (4, 0, 0, 0)), (100, 103, (.goto (-95), 3), (5, 0, 0, 0)), (103, 104, (.iload_n 3, 1), (3, 0, 0, 0)), (104, 105, (.ireturn, 1), (0, 0, 0, 0))], [(5, [0, 2, 3, 4]), (14, [0, 2, 3, 4, 5])], [], (2, 7), [])
def mc_X6_exchanges : mg_C := ([(0, 1, (.aload_n 0, 1), (0, 0, 0, 0)), (1, 4, (.getfield 29, 3), (7, 9, 1, 0)), (4, 5, (.iload_n 1, 1), (1, 0, 0, 0)), (5, 6, (.iaload, 1), (8, 0, 0, 0)), (6, 7, (.istore_n 2, 1), (2, 0, 0, 0)), (7, 8, (.aload_n 0, 1), (0, 0, 0, 0)), (8, 11, (.getfield 29, 3), (7, 9, 1, 0)), (11, 12, (.iload_n 1, 1), (1, 0, 0, 0)), (12, 13, (.aload_n 0, 1), (0, 0, 0, 0)), (13, 16, (.getfield 29, 3), (7, 9, 1, 0)), (16, 17, (.iload_n 1, 1), (1, 0, 0, 0)), (17, 18, (.iconst 1, 1), (0, 0, 0, 0)), (18, 19, (.iadd, 1), (0, 0, 0, 0)), (19, 20, (.iaload, 1), (8, 0, 0, 0)), (20, 21, (.iastore, 1), (0, 0, 0, 0)), (21, 22, (.aload_n 0, 1), (0, 0, 0, 0)), (22, 25, (.getfield 29, 3), (7, 9, 1, 0)), (25, 26, (.iload_n 1, 1), (1, 0, 0, 0)), (26, 27, (.iconst 1, 1), (0, 0, 0, 0)), (27, 28, (.iadd, 1), (0, 0, 0, 0)), (28, 29, (.iload_n 2, 1), (2, 0, 0, 0)), (29, 30, (.iastore, 1), (0, 0, 0, 0)), (30, 31, (.iconst 0, 1), (0, 0, 0, 0)), (31, 32, (.istore_n 3, 1), (3, 0, 0, 0)), (32, 33, (.iload_n 3, 1), (3, 0, 0, 0)), (33, 34, (.aload_n 0, 1), (0, 0, 0, 0)), (34, 37, (.getfield 13, 3), (7, 2, 0, 0)), (37, 40, (.if_icmp .ge 51, 3), (88, 0, 0, 0)), (40, 41, (.aload_n 0, 1), (0, 0, 0, 0)), (41, 42, (.iload_n 1, 1), (1, 0, 0, 0)), (42, 43, (.iload_n 3, 1), (3, 0, 0, 0)), (43, 46, (.invokevirtual 81, 3), (128, 2, 0, 7)), (46, 48, (.istore 4, 2), (4, 0, 0, 0)), (48, 49, (.aload_n 0, 1), (0, 0, 0, 0)), (49, 52, (.getfield 16, 3), (7, 5, 1, 0)), (52, 54, (.bipush 10, 2), (0, 0, 0, 0)), (54, 55, (.iload_n 1, 1), (1, 0, 0, 0)), (55, 56, (.imul, 1), (0, 0, 0, 0)), (56, 57, (.iload_n 3, 1), (3, 0, 0, 0)), (57, 58, (.iadd, 1), (0, 0, 0, 0)), (58, 59, (.aload_n 0, 1), (0, 0, 0, 0)), (59, 60, (.iload_n 1, 1), (1, 0, 0, 0)), (60, 61, (.iconst 1, 1), (0, 0, 0, 0)), (61, 62, (.iadd, 1), (0, 0, 0, 0)), (62, 63, (.iload_n 3, 1), (3, 0, 0, 0)), (63, 66, (.invokevirtual 81, 3), (128, 2, 0, 7)), (66, 67, (.iastore, 1), (0, 0, 0, 0)), (67, 68, (.aload_n 0, 1), (0, 0, 0, 0)), (68, 71, (.getfield 16, 3), (7, 5, 1, 0)), (71, 73, (.bipush 10, 2), (0, 0, 0, 0)), (73, 74, (.iload_n 1, 1), (1, 0, 0, 0)), (74, 75, (.iconst 1, 1), (0, 0, 0, 0)), (75, 76, (.iadd, 1), (0, 0, 0, 0)), (76, 77, (.imul, 1), (0, 0, 0, 0)), (77, 78, (.iload_n 3, 1), (3, 0, 0, 0)), (78, 79, (.iadd, 1), (0, 0, 0, 0)), (79, 81, (.iload 4, 2), (4, 0, 0, 0)), (81, 82, (.iastore, 1), (0, 0, 0, 0)), (82, 85, (.iinc 3 1, 3), (3, 0, 0, 0)), (85, 88, (.goto (-53), 3), (32, 0, 0, 0)), (88, 89, (.return_, 1), (0, 0, 0, 0))], [(32, [0, 1, 3])], [], (0, 7), [])
def mc_X6_moveRow : mg_C := ([(0, 1, (.aload_n 0, 1), (0, 0, 0, 0)), (1, 2, (.iload_n 1, 1), (1, 0, 0, 0)), (2, 3, (.iconst 0, 1), (0, 0, 0, 0)), (3, 4, (.aload_n 0, 1), (0, 0, 0, 0)), (4, 7, (.getfield 7, 3), (7, 1, 0, 0)), (7, 8, (.iconst 1, 1), (0, 0, 0, 0)), (8, 9, (.isub, 1), (0, 0, 0, 0)), (9, 12, (.invokestatic 74, 3), (126, 3, 0, 0)), (12, 15, (.ifCond .eq 17, 3), (29, 0, 0, 0)), (15, 16, (.iload_n 2, 1), (2, 0, 0, 0)), (16, 17, (.iconst 0, 1), (0, 0, 0, 0)), (17, 18, (.aload_n 0, 1), (0, 0, 0, 0)), (18, 21, (.getfield 7, 3), (7, 1, 0, 0)), (21, 22, (.iconst 1, 1), (0, 0, 0, 0)), (22, 23, (.isub, 1), (0, 0, 0, 0)), (23, 26, (.invokestatic 74, 3), (126, 3, 0, 0)), (26, 29, (.ifCond .ne 7, 3), (33, 0, 0, 0)), (29, 30, (.iconst 1, 1), (0, 0, 0, 0)), (30, 33, (.goto 13, 3), (43, 0, 0, 0)), (33, 34, (.iload_n 1, 1), (1, 0, 0, 0)), (34, 35, (.iload_n 2, 1), (2, 0, 0, 0)), (35, 38, (.if_icmp .ne 7, 3), (42, 0, 0, 0)), (38, 39, (.iconst 2, 1), (0, 0, 0, 0)), (39, 42, (.goto 4, 3), (43, 0, 0, 0)), (42, 43, (.iconst 0, 1), (0, 0, 0, 0)), (43, 46, (.invokevirtual 151, 3), (125, 1, 0, 7)), (46, 49, (.ifCond .eq 5, 3), (51, 0, 0, 0)), (49, 50, (.iconst 0, 1), (0, 0, 0, 0)), (50, 51, (.ireturn, 1), (0, 0, 0, 0)), (51, 52, (.iload_n 1, 1), (1, 0, 0, 0)), (52, 53, (.iload_n 2, 1), (2, 0, 0, 0)), (53, 56, (.if_icmp .ge 7, 3), (60, 0, 0, 0)), (56, 57, (.iload_n 1, 1), (1, 0, 0, 0)), (57, 60, (.goto 4, 3), (61, 0, 0, 0)), (60, 61, (.iload_n 2, 1), (2, 0, 0, 0)), (61, 62, (.istore_n 3, 1), (3, 0, 0, 0)), (62, 63, (.iload_n 1, 1), (1, 0, 0, 0)), (63, 64, (.iload_n 2, 1), (2, 0, 0, 0)), (64, 67, (.if_icmp .ge 7, 3), (71, 0, 0, 0)), (67, 68, (.iload_n 2, 1), (2, 0, 0, 0)), (68, 71, (.goto 4, 3), (72, 0, 0, 0)), (71, 72, (.iload_n 1, 1), (1, 0, 0, 0)), (72, 74, (.istore 4, 2), (4, 0, 0, 0)), (74, 75, (.aload_n 0, 1), (0, 0, 0, 0)), (75, 76, (.aload_n 0, 1), (0, 0, 0, 0)), (76, 77, (.iload_n 3, 1), (3, 0, 0, 0)), (77, 79, (.iload 4, 2), (4, 0, 0, 0)), (79, 82, (.invokevirtual 166, 3), (150, 2, 0, 7)), (82, 85, (.ifCond .ne 20, 3), (102, 0, 0, 0)), (85, 86, (.iload_n 3, 1), (3, 0, 0, 0)), (86, 87, (.aload_n 0, 1), (0, 0, 0, 0)), (87, 90, (.getfield 99, 3), (7, 3, 0, 0)), (90, 93, (.if_icmp .ge 16, 3), (106, 0, 0, 0)), (93, 95, (.iload 4, 2), (4, 0, 0, 0)), (95, 96, (.aload_n 0, 1), (0, 0, 0, 0)), (96, 99, (.getfield 99, 3), (7, 3, 0, 0)), (99, 102, (.if_icmp .lt 7, 3), (106, 0, 0, 0)), (102, 103, (.iconst 3, 1), (0, 0, 0, 0)), (103, 106, (.goto 4, 3), (107, 0, 0, 0)), (106, 107, (.iconst 0, 1), (0, 0, 0, 0)), (107, 110, (.invokevirtual 151, 3), (125, 1, 0, 7)), (110, 113, (.ifCond .eq 5, 3), (115, 0, 0, 0)), (113, 114, (.iconst 0, 1), (0, 0, 0, 0)), (114, 115, (.ireturn, 1), (0, 0, 0, 0)), (115, 116, (.aload_n 0, 1), (0, 0, 0, 0)), (116, 119, (.invokevirtual 154, 3), (131, 0, 0, 7)), (119, 120, (.iload_n 1, 1), (1, 0, 0, 0)), (120, 122, (.istore 5, 2), (5, 0, 0, 0)), (122, 124, (.iload 5, 2), (5, 0, 0, 0)), (124, 125, (.iload_n 2, 1), (2, 0, 0, 0)), (125, 128, (.if_icmp .ge 15, 3), (140, 0, 0, 0)), (128, 129, (.aload_n 0, 1), (0, 0, 0, 0)), (129, 131, (.iload 5, 2), (5, 0, 0, 0)), (131, 134, (.invokevirtual 169, 3), (151, 1, 0, 7)), (134, 137, (.iinc 5 1, 3), (5, 0, 0, 0)), (137, 140, (.goto (-15), 3), (122, 0, 0, 0)), (140, 141, (.iload_n 1, 1), (1, 0, 0, 0)), (141, 143, (.istore 5, 2), (5, 0, 0, 0)), (143, 145, (.iload 5, 2), (5, 0, 0, 0)), (145, 146, (.iload_n 2, 1), (2, 0, 0, 0)), (146, 149, (.if_icmp .le 17, 3), (163, 0, 0, 0)), (149, 150, (.aload_n 0, 1), (0, 0, 0, 0)), (150, 152, (.iload 5, 2), (5, 0, 0, 0)), (152, 153, (.iconst 1, 1), (0, 0, 0, 0)), (153, 154, (.isub, 1), (0, 0, 0, 0)), (154, 157, (.invokevirtual 169, 3), (151, 1, 0, 7)), (157, 160, (.iinc 5 (-1), 3), (5, 0, 0, 0)), (160, 163, (.goto (-17), 3), (143, 0, 0, 0)), (163, 164, (.aload_n 0, 1), (0, 0, 0, 0)), (164, 167, (.invokevirtual 68, 3), (129, 0, 0, 7)), (167, 168, (.aload_n 0, 1), (0, 0, 0, 0)), (168, 171, (.invokevirtual 163, 3), (138, 0, 0, 7)), (171, 173, (.iload 4, 2), (4, 0, 0, 0)), (173, 174, (.iload_n 3, 1), (3, 0, 0, 0)), (174, 175, (.isub, 1), (0, 0, 0, 0)), (175, 176, (.iconst 1, 1), (0, 0, 0, 0)), (176, 177, (.iadd, 1), (0, 0, 0, 0)), (177, 178, (.ireturn, 1), (0, 0, 0, 0))], [(122, [0, 1, 2, 3, 4, 5]), (143, [0, 2, 3, 4, 5])], [], (1, 7), [])
def mc_X6_failsSquare : mg_C := ([(0, 1, (.aload_n 0, 1), (0, 0, 0, 0)), (1, 2, (.aload_n 0, 1), (0, 0, 0, 0)), (2, 3, (.iload_n 1, 1), (1, 0, 0, 0)), (3, 4, (.iload_n 2, 1), (2, 0, 0, 0)), (4, 7, (.invokevirtual 172, 3), (127, 2, 0, 7)), (7, 10, (.ifCond .eq 7, 3), (14, 0, 0, 0)), (10, 11, (.iconst 0, 1), (0, 0, 0, 0)), (11, 14, (.goto 4, 3), (15, 0, 0, 0)), (14, 15, (.iconst 1, 1), (0, 0, 0, 0)), (15, 18, (.invokevirtual 151, 3), (125, 1, 0, 7)), (18, 19, (.ireturn, 1), (0, 0, 0, 0))], [], [], (2, 7), [])
def mc_X6_topRow : mg_C := ([(0, 1, (.iconst (-1), 1), (0, 0, 0, 0)), (1, 2, (.istore_n 2, 1), (2, 0, 0, 0)), (2, 3, (.aload_n 0, 1), (0, 0, 0, 0)), (3, 6, (.getfield 7, 3), (7, 1, 0, 0)), (6, 7, (.iconst 1, 1), (0, 0, 0, 0)), (7, 8, (.isub, 1), (0, 0, 0, 0)), (8, 9, (.istore_n 3, 1), (3, 0, 0, 0)), (9, 10, (.iload_n 3, 1), (3, 0, 0, 0)), (10, 13, (.ifCond .lt 44, 3), (54, 0, 0, 0)), (13, 14, (.iconst 0, 1), (0, 0, 0, 0)), (14, 16, (.istore 4, 2), (4, 0, 0, 0)), (16, 18, (.iload 4, 2), (4, 0, 0, 0)), (18, 19, (.aload_n 0, 1), (0, 0, 0, 0)), (19, 22, (.getfield 13, 3), (7, 2, 0, 0)), (22, 25, (.if_icmp .ge 26, 3), (48, 0, 0, 0)), (25, 26, (.aload_n 0, 1), (0, 0, 0, 0)), (26, 27, (.iload_n 3, 1), (3, 0, 0, 0)), (27, 29, (.iload 4, 2), (4, 0, 0, 0)), (29, 32, (.invokevirtual 81, 3), (128, 2, 0, 7)), (32, 33, (.iload_n 1, 1), (1, 0, 0, 0)), (33, 36, (.if_icmp .ne 7, 3), (40, 0, 0, 0)), (36, 37, (.iload_n 3, 1), (3, 0, 0, 0)), (37, 40, (.goto 4, 3), (41, 0, 0, 0)), (40, 41, (.iload_n 2, 1), (2, 0, 0, 0)), (41, 42, (.istore_n 2, 1), (2, 0, 0, 0)), (42, 45, (.iinc 4 1, 3), (4, 0, 0, 0)), (45, 48, (.goto (-29), 3), (16, 0, 0, 0)), (48, 51, (.iinc 3 (-1), 3), (3, 0, 0, 0)), (51, 54, (.goto (-42), 3), (9, 0, 0, 0)), (54, 55, (.iload_n 2, 1), (2, 0, 0, 0)), (55, 56, (.ireturn, 1), (0, 0, 0, 0))], [(9, [0, 1, 2, 3]), (16, [0, 1, 2, 3, 4])], [], (1, 7), [])
def mc_X6_leftCol : mg_C := ([(0, 1, (.iconst (-1), 1), (0, 0, 0, 0)), (1, 2, (.istore_n 2, 1), (2, 0, 0, 0)), (2, 3, (.aload_n 0, 1), (0, 0, 0, 0)), (3, 6, (.getfield 13, 3), (7, 2, 0, 0)), (6, 7, (.iconst 1, 1), (0, 0, 0, 0)), (7, 8, (.isub, 1), (0, 0, 0, 0)), (8, 9, (.istore_n 3, 1), (3, 0, 0, 0)), (9, 10, (.iload_n 3, 1), (3, 0, 0, 0)), (10, 13, (.ifCond .lt 44, 3), (54, 0, 0, 0)), (13, 14, (.iconst 0, 1), (0, 0, 0, 0)), (14, 16, (.istore 4, 2), (4, 0, 0, 0)), (16, 18, (.iload 4, 2), (4, 0, 0, 0)), (18, 19, (.aload_n 0, 1), (0, 0, 0, 0)), (19, 22, (.getfield 7, 3), (7, 1, 0, 0)), (22, 25, (.if_icmp .ge 26, 3), (48, 0, 0, 0)), (25, 26, (.aload_n 0, 1), (0, 0, 0, 0)), (26, 28, (.iload 4, 2), (4, 0, 0, 0)), (28, 29, (.iload_n 3, 1), (3, 0, 0, 0)), (29, 32, (.invokevirtual 81, 3), (128, 2, 0, 7)), (32, 33, (.iload_n 1, 1), (1, 0, 0, 0)), (33, 36, (.if_icmp .ne 7, 3), (40, 0, 0, 0)), (36, 37, (.iload_n 3, 1), (3, 0, 0, 0)), (37, 40, (.goto 4, 3), (41, 0, 0, 0)), (40, 41, (.iload_n 2, 1), (2, 0, 0, 0)), (41, 42, (.istore_n 2, 1), (2, 0, 0, 0)), (42, 45, (.iinc 4 1, 3), (4, 0, 0, 0)), (45, 48, (.goto (-29), 3), (16, 0, 0, 0)), (48, 51, (.iinc 3 (-1), 3), (3, 0, 0, 0)), (51, 54, (.goto (-42), 3), (9, 0, 0, 0)), (54, 55, (.iload_n 2, 1), (2, 0, 0, 0)), (55, 56, (.ireturn, 1), (0, 0, 0, 0))], [(9, [0, 1, 2, 3]), (16, [0, 1, 2, 3, 4])], [], (1, 7), [])
def mc_X6_rowMany : mg_C := ([(0, 1, (.iconst 0, 1), (0, 0, 0, 0)), (1, 2, (.istore_n 2, 1), (2, 0, 0, 0)), (2, 3, (.aload_n 0, 1), (0, 0, 0, 0)), (3, 4, (.iload_n 1, 1), (1, 0, 0, 0)), (4, 7, (.invokevirtual 175, 3), (155, 1, 0, 7)), (7, 8, (.istore_n 3, 1), (3, 0, 0, 0)), (8, 9, (.iconst 0, 1), (0, 0, 0, 0)), (9, 11, (.istore 4, 2), (4, 0, 0, 0)), (11, 13, (.iload 4, 2), (4, 0, 0, 0)), (13, 14, (.aload_n 0, 1), (0, 0, 0, 0)), (14, 17, (.getfield 7, 3), (7, 1, 0, 0)), (17, 20, (.if_icmp .ge 28, 3), (45, 0, 0, 0)), (20, 21, (.iload_n 2, 1), (2, 0, 0, 0)), (21, 22, (.aload_n 0, 1), (0, 0, 0, 0)), (22, 24, (.iload 4, 2), (4, 0, 0, 0)), (24, 25, (.iload_n 3, 1), (3, 0, 0, 0)), (25, 28, (.invokevirtual 81, 3), (128, 2, 0, 7)), (28, 29, (.iload_n 1, 1), (1, 0, 0, 0)), (29, 32, (.if_icmp .ne 7, 3), (36, 0, 0, 0)), (32, 33, (.iconst 1, 1), (0, 0, 0, 0)), (33, 36, (.goto 4, 3), (37, 0, 0, 0)), (36, 37, (.iconst 0, 1), (0, 0, 0, 0)), (37, 38, (.iadd, 1), (0, 0, 0, 0)), (38, 39, (.istore_n 2, 1), (2, 0, 0, 0)), (39, 42, (.iinc 4 1, 3), (4, 0, 0, 0)), (42, 45, (.goto (-31), 3), (11, 0, 0, 0)), (45, 46, (.iload_n 2, 1), (2, 0, 0, 0)), (46, 47, (.ireturn, 1), (0, 0, 0, 0))], [(11, [0, 1, 2, 3, 4])], [], (1, 7), [])
def mc_X6_colMany : mg_C := ([(0, 1, (.iconst 0, 1), (0, 0, 0, 0)), (1, 2, (.istore_n 2, 1), (2, 0, 0, 0)), (2, 3, (.aload_n 0, 1), (0, 0, 0, 0)), (3, 4, (.iload_n 1, 1), (1, 0, 0, 0)), (4, 7, (.invokevirtual 179, 3), (154, 1, 0, 7)), (7, 8, (.istore_n 3, 1), (3, 0, 0, 0)), (8, 9, (.iconst 0, 1), (0, 0, 0, 0)), (9, 11, (.istore 4, 2), (4, 0, 0, 0)), (11, 13, (.iload 4, 2), (4, 0, 0, 0)), (13, 14, (.aload_n 0, 1), (0, 0, 0, 0)), (14, 17, (.getfield 13, 3), (7, 2, 0, 0)), (17, 20, (.if_icmp .ge 28, 3), (45, 0, 0, 0)), (20, 21, (.iload_n 2, 1), (2, 0, 0, 0)), (21, 22, (.aload_n 0, 1), (0, 0, 0, 0)), (22, 23, (.iload_n 3, 1), (3, 0, 0, 0)), (23, 25, (.iload 4, 2), (4, 0, 0, 0)), (25, 28, (.invokevirtual 81, 3), (128, 2, 0, 7)), (28, 29, (.iload_n 1, 1), (1, 0, 0, 0)), (29, 32, (.if_icmp .ne 7, 3), (36, 0, 0, 0)), (32, 33, (.iconst 1, 1), (0, 0, 0, 0)), (33, 36, (.goto 4, 3), (37, 0, 0, 0)), (36, 37, (.iconst 0, 1), (0, 0, 0, 0)), (37, 38, (.iadd, 1), (0, 0, 0, 0)), (38, 39, (.istore_n 2, 1), (2, 0, 0, 0)), (39, 42, (.iinc 4 1, 3), (4, 0, 0, 0)), (42, 45, (.goto (-31), 3), (11, 0, 0, 0)), (45, 46, (.iload_n 2, 1), (2, 0, 0, 0)), (46, 47, (.ireturn, 1), (0, 0, 0, 0))], [(11, [0, 1, 2, 3, 4])], [], (1, 7), [])
def mc_X6_topOf : mg_C := ([(0, 1, (.aload_n 0, 1), (0, 0, 0, 0)), (1, 2, (.iload_n 1, 1), (1, 0, 0, 0)), (2, 3, (.iload_n 2, 1), (2, 0, 0, 0)), (3, 6, (.invokevirtual 182, 3), (153, 2, 0, 7)), (6, 9, (.ifCond .eq 7, 3), (13, 0, 0, 0)), (9, 10, (.iconst 0, 1), (0, 0, 0, 0)), (10, 13, (.goto 13, 3), (23, 0, 0, 0)), (13, 14, (.aload_n 0, 1), (0, 0, 0, 0)), (14, 15, (.aload_n 0, 1), (0, 0, 0, 0)), (15, 16, (.iload_n 1, 1), (1, 0, 0, 0)), (16, 17, (.iload_n 2, 1), (2, 0, 0, 0)), (17, 20, (.invokevirtual 81, 3), (128, 2, 0, 7)), (20, 23, (.invokevirtual 179, 3), (154, 1, 0, 7)), (23, 24, (.ireturn, 1), (0, 0, 0, 0))], [], [], (1, 7), [])
def mc_X6_leftOf : mg_C := ([(0, 1, (.aload_n 0, 1), (0, 0, 0, 0)), (1, 2, (.iload_n 1, 1), (1, 0, 0, 0)), (2, 3, (.iload_n 2, 1), (2, 0, 0, 0)), (3, 6, (.invokevirtual 182, 3), (153, 2, 0, 7)), (6, 9, (.ifCond .eq 7, 3), (13, 0, 0, 0)), (9, 10, (.iconst 0, 1), (0, 0, 0, 0)), (10, 13, (.goto 13, 3), (23, 0, 0, 0)), (13, 14, (.aload_n 0, 1), (0, 0, 0, 0)), (14, 15, (.aload_n 0, 1), (0, 0, 0, 0)), (15, 16, (.iload_n 1, 1), (1, 0, 0, 0)), (16, 17, (.iload_n 2, 1), (2, 0, 0, 0)), (17, 20, (.invokevirtual 81, 3), (128, 2, 0, 7)), (20, 23, (.invokevirtual 175, 3), (155, 1, 0, 7)), (23, 24, (.ireturn, 1), (0, 0, 0, 0))], [], [], (1, 7), [])
def mc_X6_rowsOf : mg_C := ([(0, 1, (.aload_n 0, 1), (0, 0, 0, 0)), (1, 2, (.iload_n 1, 1), (1, 0, 0, 0)), (2, 3, (.iload_n 2, 1), (2, 0, 0, 0)), (3, 6, (.invokevirtual 182, 3), (153, 2, 0, 7)), (6, 9, (.ifCond .eq 7, 3), (13, 0, 0, 0)), (9, 10, (.iconst 0, 1), (0, 0, 0, 0)), (10, 13, (.goto 13, 3), (23, 0, 0, 0)), (13, 14, (.aload_n 0, 1), (0, 0, 0, 0)), (14, 15, (.aload_n 0, 1), (0, 0, 0, 0)), (15, 16, (.iload_n 1, 1), (1, 0, 0, 0)), (16, 17, (.iload_n 2, 1), (2, 0, 0, 0)), (17, 20, (.invokevirtual 81, 3), (128, 2, 0, 7)), (20, 23, (.invokevirtual 185, 3), (156, 1, 0, 7)), (23, 24, (.ireturn, 1), (0, 0, 0, 0))], [], [], (1, 7), [])
def mc_X6_columnsOf : mg_C := ([(0, 1, (.aload_n 0, 1), (0, 0, 0, 0)), (1, 2, (.iload_n 1, 1), (1, 0, 0, 0)), (2, 3, (.iload_n 2, 1), (2, 0, 0, 0)), (3, 6, (.invokevirtual 182, 3), (153, 2, 0, 7)), (6, 9, (.ifCond .eq 7, 3), (13, 0, 0, 0)), (9, 10, (.iconst 0, 1), (0, 0, 0, 0)), (10, 13, (.goto 13, 3), (23, 0, 0, 0)), (13, 14, (.aload_n 0, 1), (0, 0, 0, 0)), (14, 15, (.aload_n 0, 1), (0, 0, 0, 0)), (15, 16, (.iload_n 1, 1), (1, 0, 0, 0)), (16, 17, (.iload_n 2, 1), (2, 0, 0, 0)), (17, 20, (.invokevirtual 81, 3), (128, 2, 0, 7)), (20, 23, (.invokevirtual 188, 3), (157, 1, 0, 7)), (23, 24, (.ireturn, 1), (0, 0, 0, 0))], [], [], (1, 7), [])
def mc_X6_contentAt : mg_C := ([(0, 1, (.aload_n 0, 1), (0, 0, 0, 0)), (1, 2, (.iload_n 1, 1), (1, 0, 0, 0)), (2, 3, (.iload_n 2, 1), (2, 0, 0, 0)), (3, 6, (.invokevirtual 182, 3), (153, 2, 0, 7)), (6, 9, (.ifCond .eq 7, 3), (13, 0, 0, 0)), (9, 10, (.iconst 0, 1), (0, 0, 0, 0)), (10, 13, (.goto 14, 3), (24, 0, 0, 0)), (13, 14, (.aload_n 0, 1), (0, 0, 0, 0)), (14, 17, (.getfield 20, 3), (7, 6, 1, 0)), (17, 18, (.aload_n 0, 1), (0, 0, 0, 0)), (18, 19, (.iload_n 1, 1), (1, 0, 0, 0)), (19, 20, (.iload_n 2, 1), (2, 0, 0, 0)), (20, 23, (.invokevirtual 81, 3), (128, 2, 0, 7)), (23, 24, (.iaload, 1), (8, 0, 0, 0)), (24, 25, (.ireturn, 1), (0, 0, 0, 0))], [], [], (1, 7), [])
def mc_X6_styleAt : mg_C := ([(0, 1, (.aload_n 0, 1), (0, 0, 0, 0)), (1, 2, (.iload_n 1, 1), (1, 0, 0, 0)), (2, 3, (.iload_n 2, 1), (2, 0, 0, 0)), (3, 6, (.invokevirtual 182, 3), (153, 2, 0, 7)), (6, 9, (.ifCond .eq 7, 3), (13, 0, 0, 0)), (9, 10, (.iconst 0, 1), (0, 0, 0, 0)), (10, 13, (.goto 14, 3), (24, 0, 0, 0)), (13, 14, (.aload_n 0, 1), (0, 0, 0, 0)), (14, 17, (.getfield 23, 3), (7, 7, 1, 0)), (17, 18, (.aload_n 0, 1), (0, 0, 0, 0)), (18, 19, (.iload_n 1, 1), (1, 0, 0, 0)), (19, 20, (.iload_n 2, 1), (2, 0, 0, 0)), (20, 23, (.invokevirtual 81, 3), (128, 2, 0, 7)), (23, 24, (.iaload, 1), (8, 0, 0, 0)), (24, 25, (.ireturn, 1), (0, 0, 0, 0))], [], [], (1, 7), [])
def mc_X6_setContent : mg_C := ([(0, 1, (.aload_n 0, 1), (0, 0, 0, 0)), (1, 2, (.aload_n 0, 1), (0, 0, 0, 0)), (2, 3, (.iload_n 1, 1), (1, 0, 0, 0)), (3, 4, (.iload_n 2, 1), (2, 0, 0, 0)), (4, 7, (.invokevirtual 172, 3), (127, 2, 0, 7)), (7, 10, (.ifCond .ne 7, 3), (14, 0, 0, 0)), (10, 11, (.iconst 1, 1), (0, 0, 0, 0)), (11, 14, (.goto 19, 3), (30, 0, 0, 0)), (14, 15, (.iload_n 3, 1), (3, 0, 0, 0)), (15, 16, (.iconst 0, 1), (0, 0, 0, 0)), (16, 19, (.sipush 999, 3), (0, 0, 0, 0)), (19, 22, (.invokestatic 74, 3), (126, 3, 0, 0)), (22, 25, (.ifCond .eq 7, 3), (29, 0, 0, 0)), (25, 26, (.iconst 0, 1), (0, 0, 0, 0)), (26, 29, (.goto 4, 3), (30, 0, 0, 0)), (29, 30, (.iconst 2, 1), (0, 0, 0, 0)), (30, 33, (.invokevirtual 151, 3), (125, 1, 0, 7)), (33, 36, (.ifCond .eq 5, 3), (38, 0, 0, 0)), (36, 37, (.iconst 0, 1), (0, 0, 0, 0)), (37, 38, (.ireturn, 1), (0, 0, 0, 0)), (38, 39, (.aload_n 0, 1), (0, 0, 0, 0)), (39, 42, (.invokevirtual 154, 3), (131, 0, 0, 7)), (42, 43, (.aload_n 0, 1), (0, 0, 0, 0)), (43, 46, (.getfield 20, 3), (7, 6, 1, 0)), (46, 47, (.aload_n 0, 1), (0, 0, 0, 0)), (47, 48, (.iload_n 1, 1), (1, 0, 0, 0)), (48, 49, (.iload_n 2, 1), (2, 0, 0, 0)), (49, 52, (.invokevirtual 81, 3), (128, 2, 0, 7)), (52, 53, (.iaload, 1), (8, 0, 0, 0)), (53, 55, (.istore 4, 2), (4, 0, 0, 0)), (55, 56, (.aload_n 0, 1), (0, 0, 0, 0)), (56, 59, (.getfield 20, 3), (7, 6, 1, 0)), (59, 60, (.aload_n 0, 1), (0, 0, 0, 0)), (60, 61, (.iload_n 1, 1), (1, 0, 0, 0)), (61, 62, (.iload_n 2, 1), (2, 0, 0, 0)), (62, 65, (.invokevirtual 81, 3), (128, 2, 0, 7)), (65, 66, (.iload_n 3, 1), (3, 0, 0, 0)), (66, 67, (.iastore, 1), (0, 0, 0, 0)), (67, 69, (.iload 4, 2), (4, 0, 0, 0)), (69, 70, (.ireturn, 1), (0, 0, 0, 0))], [], [], (1, 7), [])
def mc_X6_setStyle : mg_C := ([(0, 1, (.aload_n 0, 1), (0, 0, 0, 0)), (1, 2, (.iload_n 1, 1), (1, 0, 0, 0)), (2, 3, (.iconst 0, 1), (0, 0, 0, 0)), (3, 5, (.bipush 9, 2), (0, 0, 0, 0)), (5, 8, (.invokestatic 74, 3), (126, 3, 0, 0)), (8, 11, (.ifCond .eq 7, 3), (15, 0, 0, 0)), (11, 12, (.iconst 0, 1), (0, 0, 0, 0)), (12, 15, (.goto 4, 3), (16, 0, 0, 0)), (15, 16, (.iconst 1, 1), (0, 0, 0, 0)), (16, 19, (.invokevirtual 151, 3), (125, 1, 0, 7)), (19, 22, (.ifCond .eq 5, 3), (24, 0, 0, 0)), (22, 23, (.iconst 0, 1), (0, 0, 0, 0)), (23, 24, (.ireturn, 1), (0, 0, 0, 0)), (24, 25, (.aload_n 0, 1), (0, 0, 0, 0)), (25, 28, (.invokevirtual 154, 3), (131, 0, 0, 7)), (28, 29, (.iconst 0, 1), (0, 0, 0, 0)), (29, 30, (.istore_n 2, 1), (2, 0, 0, 0)), (30, 31, (.iconst 0, 1), (0, 0, 0, 0)), (31, 32, (.istore_n 3, 1), (3, 0, 0, 0)), (32, 33, (.iload_n 3, 1), (3, 0, 0, 0)), (33, 34, (.aload_n 0, 1), (0, 0, 0, 0)), (34, 37, (.getfield 78, 3), (7, 4, 0, 0)), (37, 40, (.if_icmp .ge 42, 3), (79, 0, 0, 0)), (40, 41, (.aload_n 0, 1), (0, 0, 0, 0)), (41, 42, (.iload_n 3, 1), (3, 0, 0, 0)), (42, 45, (.invokevirtual 191, 3), (139, 1, 0, 7)), (45, 48, (.ifCond .eq 28, 3), (73, 0, 0, 0)), (48, 49, (.iload_n 2, 1), (2, 0, 0, 0)), (49, 50, (.aload_n 0, 1), (0, 0, 0, 0)), (50, 53, (.getfield 23, 3), (7, 7, 1, 0)), (53, 54, (.iload_n 3, 1), (3, 0, 0, 0)), (54, 55, (.iaload, 1), (8, 0, 0, 0)), (55, 56, (.iload_n 1, 1), (1, 0, 0, 0)), (56, 59, (.if_icmp .eq 7, 3), (63, 0, 0, 0)), (59, 60, (.iconst 1, 1), (0, 0, 0, 0)), (60, 63, (.goto 4, 3), (64, 0, 0, 0)), (63, 64, (.iconst 0, 1), (0, 0, 0, 0)), (64, 65, (.iadd, 1), (0, 0, 0, 0)), (65, 66, (.istore_n 2, 1), (2, 0, 0, 0)), (66, 67, (.aload_n 0, 1), (0, 0, 0, 0)), (67, 70, (.getfield 23, 3), (7, 7, 1, 0)), (70, 71, (.iload_n 3, 1), (3, 0, 0, 0)), (71, 72, (.iload_n 1, 1), (1, 0, 0, 0)), (72, 73, (.iastore, 1), (0, 0, 0, 0)), (73, 76, (.iinc 3 1, 3), (3, 0, 0, 0)), (76, 79, (.goto (-44), 3), (32, 0, 0, 0)), (79, 80, (.iload_n 2, 1), (2, 0, 0, 0)), (80, 81, (.ireturn, 1), (0, 0, 0, 0))], [(32, [0, 1, 2, 3])], [], (1, 7), [])
def mc_X6_failsTwo : mg_C := ([(0, 1, (.aload_n 0, 1), (0, 0, 0, 0)), (1, 2, (.aload_n 0, 1), (0, 0, 0, 0)), (2, 3, (.iload_n 1, 1), (1, 0, 0, 0)), (3, 4, (.iload_n 2, 1), (2, 0, 0, 0)), (4, 7, (.invokevirtual 172, 3), (127, 2, 0, 7)), (7, 10, (.ifCond .eq 17, 3), (24, 0, 0, 0)), (10, 11, (.aload_n 0, 1), (0, 0, 0, 0)), (11, 12, (.iload_n 3, 1), (3, 0, 0, 0)), (12, 14, (.iload 4, 2), (4, 0, 0, 0)), (14, 17, (.invokevirtual 172, 3), (127, 2, 0, 7)), (17, 20, (.ifCond .eq 7, 3), (24, 0, 0, 0)), (20, 21, (.iconst 0, 1), (0, 0, 0, 0)), (21, 24, (.goto 4, 3), (25, 0, 0, 0)), (24, 25, (.iconst 1, 1), (0, 0, 0, 0)), (25, 28, (.invokevirtual 151, 3), (125, 1, 0, 7)), (28, 29, (.ireturn, 1), (0, 0, 0, 0))], [], [], (2, 7), [])
def mc_X6_select : mg_C := ([(0, 1, (.aload_n 0, 1), (0, 0, 0, 0)), (1, 2, (.iload_n 1, 1), (1, 0, 0, 0)), (2, 3, (.iload_n 2, 1), (2, 0, 0, 0)), (3, 4, (.iload_n 3, 1), (3, 0, 0, 0)), (4, 6, (.iload 4, 2), (4, 0, 0, 0)), (6, 9, (.invokevirtual 194, 3), (166, 4, 0, 7)), (9, 12, (.ifCond .eq 5, 3), (14, 0, 0, 0)), (12, 13, (.iconst 0, 1), (0, 0, 0, 0)), (13, 14, (.ireturn, 1), (0, 0, 0, 0)), (14, 15, (.aload_n 0, 1), (0, 0, 0, 0)), (15, 16, (.iload_n 1, 1), (1, 0, 0, 0)), (16, 17, (.iload_n 2, 1), (2, 0, 0, 0)), (17, 18, (.iload_n 3, 1), (3, 0, 0, 0)), (18, 20, (.iload 4, 2), (4, 0, 0, 0)), (20, 23, (.invokevirtual 144, 3), (136, 4, 0, 7)), (23, 24, (.aload_n 0, 1), (0, 0, 0, 0)), (24, 27, (.invokevirtual 148, 3), (137, 0, 0, 7)), (27, 28, (.aload_n 0, 1), (0, 0, 0, 0)), (28, 31, (.getfield 108, 3), (7, 33, 0, 0)), (31, 32, (.aload_n 0, 1), (0, 0, 0, 0)), (32, 35, (.getfield 105, 3), (7, 32, 0, 0)), (35, 36, (.isub, 1), (0, 0, 0, 0)), (36, 37, (.iconst 1, 1), (0, 0, 0, 0)), (37, 38, (.iadd, 1), (0, 0, 0, 0)), (38, 39, (.aload_n 0, 1), (0, 0, 0, 0)), (39, 42, (.getfield 114, 3), (7, 35, 0, 0)), (42, 43, (.aload_n 0, 1), (0, 0, 0, 0)), (43, 46, (.getfield 111, 3), (7, 34, 0, 0)), (46, 47, (.isub, 1), (0, 0, 0, 0)), (47, 48, (.iconst 1, 1), (0, 0, 0, 0)), (48, 49, (.iadd, 1), (0, 0, 0, 0)), (49, 50, (.imul, 1), (0, 0, 0, 0)), (50, 51, (.ireturn, 1), (0, 0, 0, 0))], [], [], (1, 7), [])
def mc_X6_selected : mg_C := ([(0, 1, (.iload_n 1, 1), (1, 0, 0, 0)), (1, 3, (.bipush 116, 2), (0, 0, 0, 0)), (3, 6, (.if_icmp .eq 21, 3), (24, 0, 0, 0)), (6, 7, (.iload_n 1, 1), (1, 0, 0, 0)), (7, 9, (.bipush 98, 2), (0, 0, 0, 0)), (9, 12, (.if_icmp .eq 15, 3), (24, 0, 0, 0)), (12, 13, (.iload_n 1, 1), (1, 0, 0, 0)), (13, 15, (.bipush 108, 2), (0, 0, 0, 0)), (15, 18, (.if_icmp .eq 9, 3), (24, 0, 0, 0)), (18, 19, (.iload_n 1, 1), (1, 0, 0, 0)), (19, 21, (.bipush 114, 2), (0, 0, 0, 0)), (21, 24, (.if_icmp .ne 7, 3), (28, 0, 0, 0)), (24, 25, (.iconst 1, 1), (0, 0, 0, 0)), (25, 28, (.goto 4, 3), (29, 0, 0, 0)), (28, 29, (.iconst 0, 1), (0, 0, 0, 0)), (29, 30, (.istore_n 2, 1), (2, 0, 0, 0)), (30, 31, (.aload_n 0, 1), (0, 0, 0, 0)), (31, 32, (.iload_n 2, 1), (2, 0, 0, 0)), (32, 35, (.ifCond .eq 7, 3), (39, 0, 0, 0)), (35, 36, (.iconst 0, 1), (0, 0, 0, 0)), (36, 39, (.goto 4, 3), (40, 0, 0, 0)), (39, 40, (.iconst 1, 1), (0, 0, 0, 0)), (40, 43, (.invokevirtual 151, 3), (125, 1, 0, 7)), (43, 46, (.ifCond .eq 7, 3), (50, 0, 0, 0)), (46, 47, (.iconst 0, 1), (0, 0, 0, 0)), (47, 50, (.goto 46, 3), (93, 0, 0, 0)), (50, 51, (.iload_n 1, 1), (1, 0, 0, 0)), (51, 53, (.bipush 116, 2), (0, 0, 0, 0)), (53, 56, (.if_icmp .ne 10, 3), (63, 0, 0, 0)), (56, 57, (.aload_n 0, 1), (0, 0, 0, 0)), (57, 60, (.getfield 132, 3), (7, 21, 0, 0)), (60, 63, (.goto 33, 3), (93, 0, 0, 0)), (63, 64, (.iload_n 1, 1), (1, 0, 0, 0)), (64, 66, (.bipush 98, 2), (0, 0, 0, 0)), (66, 69, (.if_icmp .ne 10, 3), (76, 0, 0, 0)), (69, 70, (.aload_n 0, 1), (0, 0, 0, 0)), (70, 73, (.getfield 135, 3), (7, 22, 0, 0)), (73, 76, (.goto 20, 3), (93, 0, 0, 0)), (76, 77, (.iload_n 1, 1), (1, 0, 0, 0)), (77, 79, (.bipush 108, 2), (0, 0, 0, 0)), (79, 82, (.if_icmp .ne 10, 3), (89, 0, 0, 0)), (82, 83, (.aload_n 0, 1), (0, 0, 0, 0)), (83, 86, (.getfield 138, 3), (7, 23, 0, 0)), (86, 89, (.goto 7, 3), (93, 0, 0, 0)), (89, 90, (.aload_n 0, 1), (0, 0, 0, 0)), (90, 93, (.getfield 141, 3), (7, 24, 0, 0)), (93, 94, (.ireturn, 1), (0, 0, 0, 0))], [], [], (1, 7), [])
def mc_X6_chosen : mg_C := ([(0, 1, (.iconst 0, 1), (0, 0, 0, 0)), (1, 2, (.istore_n 1, 1), (1, 0, 0, 0)), (2, 3, (.iconst 0, 1), (0, 0, 0, 0)), (3, 4, (.istore_n 2, 1), (2, 0, 0, 0)), (4, 5, (.iload_n 2, 1), (2, 0, 0, 0)), (5, 6, (.aload_n 0, 1), (0, 0, 0, 0)), (6, 9, (.getfield 78, 3), (7, 4, 0, 0)), (9, 12, (.if_icmp .ge 25, 3), (34, 0, 0, 0)), (12, 13, (.iload_n 1, 1), (1, 0, 0, 0)), (13, 14, (.aload_n 0, 1), (0, 0, 0, 0)), (14, 15, (.iload_n 2, 1), (2, 0, 0, 0)), (15, 18, (.invokevirtual 191, 3), (139, 1, 0, 7)), (18, 21, (.ifCond .eq 7, 3), (25, 0, 0, 0)), (21, 22, (.iconst 1, 1), (0, 0, 0, 0)), (22, 25, (.goto 4, 3), (26, 0, 0, 0)), (25, 26, (.iconst 0, 1), (0, 0, 0, 0)), (26, 27, (.iadd, 1), (0, 0, 0, 0)), (27, 28, (.istore_n 1, 1), (1, 0, 0, 0)), (28, 31, (.iinc 2 1, 3), (2, 0, 0, 0)), (31, 34, (.goto (-27), 3), (4, 0, 0, 0)), (34, 35, (.iload_n 1, 1), (1, 0, 0, 0)), (35, 36, (.ireturn, 1), (0, 0, 0, 0))], [(4, [0, 1, 2])], [], (1, 7), [])
def mc_X6_selectedCells : mg_C := ([(0, 1, (.aload_n 0, 1), (0, 0, 0, 0)), (1, 2, (.iconst 0, 1), (0, 0, 0, 0)), (2, 5, (.putfield 71, 3), (7, 0, 0, 0)), (5, 6, (.aload_n 0, 1), (0, 0, 0, 0)), (6, 9, (.invokevirtual 198, 3), (169, 0, 0, 7)), (9, 10, (.ireturn, 1), (0, 0, 0, 0))], [], [], (1, 7), [])
def mc_X6_squaresFor : mg_C := ([(0, 1, (.aload_n 0, 1), (0, 0, 0, 0)), (1, 2, (.iload_n 1, 1), (1, 0, 0, 0)), (2, 3, (.iload_n 2, 1), (2, 0, 0, 0)), (3, 4, (.iload_n 3, 1), (3, 0, 0, 0)), (4, 6, (.iload 4, 2), (4, 0, 0, 0)), (6, 9, (.invokevirtual 194, 3), (166, 4, 0, 7)), (9, 12, (.ifCond .eq 5, 3), (14, 0, 0, 0)), (12, 13, (.iconst 0, 1), (0, 0, 0, 0)), (13, 14, (.ireturn, 1), (0, 0, 0, 0)), (14, 15, (.aload_n 0, 1), (0, 0, 0, 0)), (15, 16, (.iload_n 1, 1), (1, 0, 0, 0)), (16, 17, (.iload_n 2, 1), (2, 0, 0, 0)), (17, 18, (.iload_n 3, 1), (3, 0, 0, 0)), (18, 20, (.iload 4, 2), (4, 0, 0, 0)), (20, 23, (.invokevirtual 144, 3), (136, 4, 0, 7)), (23, 24, (.aload_n 0, 1), (0, 0, 0, 0)), (24, 27, (.getfield 108, 3), (7, 33, 0, 0)), (27, 28, (.aload_n 0, 1), (0, 0, 0, 0)), (28, 31, (.getfield 105, 3), (7, 32, 0, 0)), (31, 32, (.isub, 1), (0, 0, 0, 0)), (32, 33, (.iconst 1, 1), (0, 0, 0, 0)), (33, 34, (.iadd, 1), (0, 0, 0, 0)), (34, 35, (.aload_n 0, 1), (0, 0, 0, 0)), (35, 38, (.getfield 114, 3), (7, 35, 0, 0)), (38, 39, (.aload_n 0, 1), (0, 0, 0, 0)), (39, 42, (.getfield 111, 3), (7, 34, 0, 0)), (42, 43, (.isub, 1), (0, 0, 0, 0)), (43, 44, (.iconst 1, 1), (0, 0, 0, 0)), (44, 45, (.iadd, 1), (0, 0, 0, 0)), (45, 46, (.imul, 1), (0, 0, 0, 0)), (46, 47, (.ireturn, 1), (0, 0, 0, 0))], [], [], (1, 7), [])
def mc_X6_filled : mg_C := ([(0, 1, (.iconst 0, 1), (0, 0, 0, 0)), (1, 2, (.istore_n 1, 1), (1, 0, 0, 0)), (2, 3, (.iconst 0, 1), (0, 0, 0, 0)), (3, 4, (.istore_n 2, 1), (2, 0, 0, 0)), (4, 5, (.iload_n 2, 1), (2, 0, 0, 0)), (5, 6, (.aload_n 0, 1), (0, 0, 0, 0)), (6, 9, (.getfield 78, 3), (7, 4, 0, 0)), (9, 12, (.if_icmp .ge 34, 3), (43, 0, 0, 0)), (12, 13, (.iload_n 1, 1), (1, 0, 0, 0)), (13, 14, (.aload_n 0, 1), (0, 0, 0, 0)), (14, 15, (.iload_n 2, 1), (2, 0, 0, 0)), (15, 18, (.invokevirtual 191, 3), (139, 1, 0, 7)), (18, 21, (.ifCond .eq 16, 3), (34, 0, 0, 0)), (21, 22, (.aload_n 0, 1), (0, 0, 0, 0)), (22, 25, (.getfield 20, 3), (7, 6, 1, 0)), (25, 26, (.iload_n 2, 1), (2, 0, 0, 0)), (26, 27, (.iaload, 1), (8, 0, 0, 0)), (27, 30, (.ifCond .le 7, 3), (34, 0, 0, 0)), (30, 31, (.iconst 1, 1), (0, 0, 0, 0)), (31, 34, (.goto 4, 3), (35, 0, 0, 0)), (34, 35, (.iconst 0, 1), (0, 0, 0, 0)), (35, 36, (.iadd, 1), (0, 0, 0, 0)), (36, 37, (.istore_n 1, 1), (1, 0, 0, 0)), (37, 40, (.iinc 2 1, 3), (2, 0, 0, 0)), (40, 43, (.goto (-36), 3), (4, 0, 0, 0)), (43, 44, (.iload_n 1, 1), (1, 0, 0, 0)), (44, 45, (.ireturn, 1), (0, 0, 0, 0))], [(4, [0, 1, 2])], [], (1, 7), [])
def mc_X6_chosenSum : mg_C := ([(0, 1, (.iconst 0, 1), (0, 0, 0, 0)), (1, 2, (.istore_n 1, 1), (1, 0, 0, 0)), (2, 3, (.iconst 0, 1), (0, 0, 0, 0)), (3, 4, (.istore_n 2, 1), (2, 0, 0, 0)), (4, 5, (.iload_n 2, 1), (2, 0, 0, 0)), (5, 6, (.aload_n 0, 1), (0, 0, 0, 0)), (6, 9, (.getfield 78, 3), (7, 4, 0, 0)), (9, 12, (.if_icmp .ge 30, 3), (39, 0, 0, 0)), (12, 13, (.iload_n 1, 1), (1, 0, 0, 0)), (13, 14, (.aload_n 0, 1), (0, 0, 0, 0)), (14, 15, (.iload_n 2, 1), (2, 0, 0, 0)), (15, 18, (.invokevirtual 191, 3), (139, 1, 0, 7)), (18, 21, (.ifCond .eq 12, 3), (30, 0, 0, 0)), (21, 22, (.aload_n 0, 1), (0, 0, 0, 0)), (22, 25, (.getfield 20, 3), (7, 6, 1, 0)), (25, 26, (.iload_n 2, 1), (2, 0, 0, 0)), (26, 27, (.iaload, 1), (8, 0, 0, 0)), (27, 30, (.goto 4, 3), (31, 0, 0, 0)), (30, 31, (.iconst 0, 1), (0, 0, 0, 0)), (31, 32, (.iadd, 1), (0, 0, 0, 0)), (32, 33, (.istore_n 1, 1), (1, 0, 0, 0)), (33, 36, (.iinc 2 1, 3), (2, 0, 0, 0)), (36, 39, (.goto (-32), 3), (4, 0, 0, 0)), (39, 40, (.iload_n 1, 1), (1, 0, 0, 0)), (40, 41, (.ireturn, 1), (0, 0, 0, 0))], [(4, [0, 1, 2])], [], (1, 7), [])
def mc_X6_merge : mg_C := ([(0, 1, (.aload_n 0, 1), (0, 0, 0, 0)), (1, 4, (.invokevirtual 198, 3), (169, 0, 0, 7)), (4, 5, (.istore_n 1, 1), (1, 0, 0, 0)), (5, 6, (.aload_n 0, 1), (0, 0, 0, 0)), (6, 9, (.getfield 132, 3), (7, 21, 0, 0)), (9, 10, (.aload_n 0, 1), (0, 0, 0, 0)), (10, 13, (.getfield 99, 3), (7, 3, 0, 0)), (13, 16, (.if_icmp .ge 18, 3), (31, 0, 0, 0)), (16, 17, (.aload_n 0, 1), (0, 0, 0, 0)), (17, 20, (.getfield 135, 3), (7, 22, 0, 0)), (20, 21, (.aload_n 0, 1), (0, 0, 0, 0)), (21, 24, (.getfield 99, 3), (7, 3, 0, 0)), (24, 27, (.if_icmp .lt 7, 3), (31, 0, 0, 0)), (27, 28, (.iconst 1, 1), (0, 0, 0, 0)), (28, 31, (.goto 4, 3), (32, 0, 0, 0)), (31, 32, (.iconst 0, 1), (0, 0, 0, 0)), (32, 33, (.istore_n 2, 1), (2, 0, 0, 0)), (33, 34, (.aload_n 0, 1), (0, 0, 0, 0)), (34, 35, (.iload_n 1, 1), (1, 0, 0, 0)), (35, 36, (.iconst 1, 1), (0, 0, 0, 0)), (36, 39, (.if_icmp .ne 7, 3), (43, 0, 0, 0)), (39, 40, (.iconst 1, 1), (0, 0, 0, 0)), (40, 43, (.goto 20, 3), (60, 0, 0, 0)), (43, 44, (.aload_n 0, 1), (0, 0, 0, 0)), (44, 47, (.invokevirtual 202, 3), (172, 0, 0, 7)), (47, 48, (.iconst 1, 1), (0, 0, 0, 0)), (48, 51, (.if_icmp .gt 7, 3), (55, 0, 0, 0)), (51, 52, (.iload_n 2, 1), (2, 0, 0, 0)), (52, 55, (.ifCond .eq 7, 3), (59, 0, 0, 0)), (55, 56, (.iconst 2, 1), (0, 0, 0, 0)), (56, 59, (.goto 4, 3), (60, 0, 0, 0)), (59, 60, (.iconst 0, 1), (0, 0, 0, 0)), (60, 63, (.invokevirtual 151, 3), (125, 1, 0, 7)), (63, 66, (.ifCond .eq 5, 3), (68, 0, 0, 0)), (66, 67, (.iconst 0, 1), (0, 0, 0, 0)), (67, 68, (.ireturn, 1), (0, 0, 0, 0)), (68, 69, (.aload_n 0, 1), (0, 0, 0, 0)), (69, 72, (.invokevirtual 154, 3), (131, 0, 0, 7)), (72, 73, (.aload_n 0, 1), (0, 0, 0, 0)), (73, 74, (.aload_n 0, 1), (0, 0, 0, 0)), (74, 77, (.getfield 132, 3), (7, 21, 0, 0)), (77, 78, (.aload_n 0, 1), (0, 0, 0, 0)), (78, 81, (.getfield 138, 3), (7, 23, 0, 0)), (81, 84, (.invokevirtual 81, 3), (128, 2, 0, 7)), (84, 85, (.istore_n 3, 1), (3, 0, 0, 0)), (85, 86, (.aload_n 0, 1), (0, 0, 0, 0)), (86, 89, (.getfield 20, 3), (7, 6, 1, 0)), (89, 90, (.iload_n 3, 1), (3, 0, 0, 0)), (90, 91, (.aload_n 0, 1), (0, 0, 0, 0)), (91, 94, (.invokevirtual 205, 3), (173, 0, 0, 7)), (94, 95, (.iastore, 1), (0, 0, 0, 0)), (95, 96, (.aload_n 0, 1), (0, 0, 0, 0)), (96, 99, (.getfield 132, 3), (7, 21, 0, 0)), (99, 101, (.istore 4, 2), (4, 0, 0, 0)), (101, 103, (.iload 4, 2), (4, 0, 0, 0)), (103, 104, (.aload_n 0, 1), (0, 0, 0, 0)), (104, 107, (.getfield 135, 3), (7, 22, 0, 0)), (107, 110, (.if_icmp .gt 44, 3), (151, 0, 0, 0)), (110, 111, (.aload_n 0, 1), (0, 0, 0, 0)), (111, 114, (.getfield 138, 3), (7, 23, 0, 0)), (114, 116, (.istore 5, 2), (5, 0, 0, 0)), (116, 118, (.iload 5, 2), (5, 0, 0, 0)), (118, 119, (.aload_n 0, 1), (0, 0, 0, 0)), (119, 122, (.getfield 141, 3), (7, 24, 0, 0)), (122, 125, (.if_icmp .gt 23, 3), (145, 0, 0, 0)), (125, 126, (.aload_n 0, 1), (0, 0, 0, 0)), (126, 129, (.getfield 16, 3), (7, 5, 1, 0)), (129, 131, (.bipush 10, 2), (0, 0, 0, 0)), (131, 133, (.iload 4, 2), (4, 0, 0, 0)), (133, 134, (.imul, 1), (0, 0, 0, 0)), (134, 136, (.iload 5, 2), (5, 0, 0, 0)), (136, 137, (.iadd, 1), (0, 0, 0, 0)), (137, 138, (.iload_n 3, 1), (3, 0, 0, 0)), (138, 139, (.iastore, 1), (0, 0, 0, 0)), (139, 142, (.iinc 5 1, 3), (5, 0, 0, 0)), (142, 145, (.goto (-26), 3), (116, 0, 0, 0)), (145, 148, (.iinc 4 1, 3), (4, 0, 0, 0)), (148, 151, (.goto (-47), 3), (101, 0, 0, 0)), (151, 152, (.aload_n 0, 1), (0, 0, 0, 0)), (152, 155, (.invokevirtual 68, 3), (129, 0, 0, 7)), (155, 156, (.iload_n 1, 1), (1, 0, 0, 0)), (156, 157, (.ireturn, 1), (0, 0, 0, 0))], [(101, [0, 1, 3, 4]), (116, [0, 1, 3, 4, 5])], [], (1, 7), [])
def mc_X6_split : mg_C := ([(0, 1, (.iload_n 3, 1), (3, 0, 0, 0)), (1, 3, (.bipush 115, 2), (0, 0, 0, 0)), (3, 6, (.if_icmp .eq 15, 3), (18, 0, 0, 0)), (6, 7, (.iload_n 3, 1), (3, 0, 0, 0)), (7, 9, (.bipush 114, 2), (0, 0, 0, 0)), (9, 12, (.if_icmp .eq 9, 3), (18, 0, 0, 0)), (12, 13, (.iload_n 3, 1), (3, 0, 0, 0)), (13, 15, (.bipush 99, 2), (0, 0, 0, 0)), (15, 18, (.if_icmp .ne 7, 3), (22, 0, 0, 0)), (18, 19, (.iconst 1, 1), (0, 0, 0, 0)), (19, 22, (.goto 4, 3), (23, 0, 0, 0)), (22, 23, (.iconst 0, 1), (0, 0, 0, 0)), (23, 25, (.istore 4, 2), (4, 0, 0, 0)), (25, 26, (.aload_n 0, 1), (0, 0, 0, 0)), (26, 27, (.aload_n 0, 1), (0, 0, 0, 0)), (27, 28, (.iload_n 1, 1), (1, 0, 0, 0)), (28, 29, (.iload_n 2, 1), (2, 0, 0, 0)), (29, 32, (.invokevirtual 172, 3), (127, 2, 0, 7)), (32, 35, (.ifCond .ne 7, 3), (39, 0, 0, 0)), (35, 36, (.iconst 1, 1), (0, 0, 0, 0)), (36, 39, (.goto 13, 3), (49, 0, 0, 0)), (39, 41, (.iload 4, 2), (4, 0, 0, 0)), (41, 44, (.ifCond .eq 7, 3), (48, 0, 0, 0)), (44, 45, (.iconst 0, 1), (0, 0, 0, 0)), (45, 48, (.goto 4, 3), (49, 0, 0, 0)), (48, 49, (.iconst 2, 1), (0, 0, 0, 0)), (49, 52, (.invokevirtual 151, 3), (125, 1, 0, 7)), (52, 55, (.ifCond .eq 5, 3), (57, 0, 0, 0)), (55, 56, (.iconst 0, 1), (0, 0, 0, 0)), (56, 57, (.ireturn, 1), (0, 0, 0, 0)), (57, 58, (.aload_n 0, 1), (0, 0, 0, 0)), (58, 59, (.iload_n 1, 1), (1, 0, 0, 0)), (59, 60, (.iload_n 2, 1), (2, 0, 0, 0)), (60, 63, (.invokevirtual 81, 3), (128, 2, 0, 7)), (63, 65, (.istore 5, 2), (5, 0, 0, 0)), (65, 66, (.iload_n 3, 1), (3, 0, 0, 0)), (66, 68, (.bipush 99, 2), (0, 0, 0, 0)), (68, 71, (.if_icmp .ne 7, 3), (75, 0, 0, 0)), (71, 72, (.iconst 1, 1), (0, 0, 0, 0)), (72, 75, (.goto 9, 3), (81, 0, 0, 0)), (75, 76, (.aload_n 0, 1), (0, 0, 0, 0)), (76, 78, (.iload 5, 2), (5, 0, 0, 0)), (78, 81, (.invokevirtual 185, 3), (156, 1, 0, 7)), (81, 83, (.istore 6, 2), (6, 0, 0, 0)), (83, 84, (.iload_n 3, 1), (3, 0, 0, 0)), (84, 86, (.bipush 114, 2), (0, 0, 0, 0)), (86, 89, (.if_icmp .ne 7, 3), (93, 0, 0, 0)), (89, 90, (.iconst 1, 1), (0, 0, 0, 0)), (90, 93, (.goto 9, 3), (99, 0, 0, 0)), (93, 94, (.aload_n 0, 1), (0, 0, 0, 0)), (94, 96, (.iload 5, 2), (5, 0, 0, 0)), (96, 99, (.invokevirtual 188, 3), (157, 1, 0, 7)), (99, 101, (.istore 7, 2), (7, 0, 0, 0)), (101, 102, (.aload_n 0, 1), (0, 0, 0, 0)), (102, 104, (.iload 6, 2), (6, 0, 0, 0)), (104, 106, (.iload 7, 2), (7, 0, 0, 0)), (106, 107, (.imul, 1), (0, 0, 0, 0)), (107, 108, (.iconst 1, 1), (0, 0, 0, 0)), (108, 111, (.if_icmp .ne 7, 3), (115, 0, 0, 0)), (111, 112, (.iconst 3, 1), (0, 0, 0, 0)), (112, 115, (.goto 4, 3), (116, 0, 0, 0)), (115, 116, (.iconst 0, 1), (0, 0, 0, 0)), (116, 119, (.invokevirtual 151, 3), (125, 1, 0, 7)), (119, 122, (.ifCond .eq 5, 3), (124, 0, 0, 0)), (122, 123, (.iconst 0, 1), (0, 0, 0, 0)), (123, 124, (.ireturn, 1), (0, 0, 0, 0)), (124, 125, (.aload_n 0, 1), (0, 0, 0, 0)), (125, 128, (.invokevirtual 154, 3), (131, 0, 0, 7)), (128, 129, (.aload_n 0, 1), (0, 0, 0, 0)), (129, 131, (.iload 5, 2), (5, 0, 0, 0)), (131, 132, (.iload_n 3, 1), (3, 0, 0, 0)), (132, 135, (.invokevirtual 208, 3), (176, 2, 0, 7)), (135, 136, (.aload_n 0, 1), (0, 0, 0, 0)), (136, 139, (.invokevirtual 163, 3), (138, 0, 0, 7)), (139, 141, (.iload 6, 2), (6, 0, 0, 0)), (141, 143, (.iload 7, 2), (7, 0, 0, 0)), (143, 144, (.imul, 1), (0, 0, 0, 0)), (144, 145, (.ireturn, 1), (0, 0, 0, 0))], [], [], (1, 7), [])
def mc_X6_parts : mg_C := ([(0, 1, (.aload_n 0, 1), (0, 0, 0, 0)), (1, 2, (.iload_n 1, 1), (1, 0, 0, 0)), (2, 5, (.invokevirtual 179, 3), (154, 1, 0, 7)), (5, 6, (.istore_n 3, 1), (3, 0, 0, 0)), (6, 7, (.aload_n 0, 1), (0, 0, 0, 0)), (7, 8, (.iload_n 1, 1), (1, 0, 0, 0)), (8, 11, (.invokevirtual 175, 3), (155, 1, 0, 7)), (11, 13, (.istore 4, 2), (4, 0, 0, 0)), (13, 14, (.aload_n 0, 1), (0, 0, 0, 0)), (14, 17, (.invokevirtual 157, 3), (144, 0, 0, 7)), (17, 18, (.iconst 0, 1), (0, 0, 0, 0)), (18, 20, (.istore 5, 2), (5, 0, 0, 0)), (20, 22, (.iload 5, 2), (5, 0, 0, 0)), (22, 25, (.sipush 140, 3), (0, 0, 0, 0)), (25, 28, (.if_icmp .ge 25, 3), (50, 0, 0, 0)), (28, 29, (.aload_n 0, 1), (0, 0, 0, 0)), (29, 32, (.getfield 50, 3), (7, 20, 1, 0)), (32, 34, (.iload 5, 2), (5, 0, 0, 0)), (34, 35, (.iconst (-1), 1), (0, 0, 0, 0)), (35, 36, (.iastore, 1), (0, 0, 0, 0)), (36, 37, (.aload_n 0, 1), (0, 0, 0, 0)), (37, 40, (.getfield 62, 3), (7, 31, 1, 0)), (40, 42, (.iload 5, 2), (5, 0, 0, 0)), (42, 43, (.iconst 0, 1), (0, 0, 0, 0)), (43, 44, (.iastore, 1), (0, 0, 0, 0)), (44, 47, (.iinc 5 1, 3), (5, 0, 0, 0)), (47, 50, (.goto (-27), 3), (20, 0, 0, 0)), (50, 51, (.aload_n 0, 1), (0, 0, 0, 0)), (51, 52, (.iload_n 1, 1), (1, 0, 0, 0)), (52, 53, (.iload_n 2, 1), (2, 0, 0, 0)), (53, 54, (.iload_n 3, 1), (3, 0, 0, 0)), (54, 56, (.iload 4, 2), (4, 0, 0, 0)), (56, 59, (.invokevirtual 212, 3), (178, 4, 0, 7)), (59, 60, (.aload_n 0, 1), (0, 0, 0, 0)), (60, 61, (.iload_n 1, 1), (1, 0, 0, 0)), (61, 64, (.invokevirtual 216, 3), (179, 1, 0, 7)), (64, 65, (.aload_n 0, 1), (0, 0, 0, 0)), (65, 68, (.invokevirtual 68, 3), (129, 0, 0, 7)), (68, 69, (.return_, 1), (0, 0, 0, 0))], [(20, [0, 1, 2, 3, 4, 5])], [], (0, 7), [])
def mc_X6_beginOf : mg_C := ([(0, 1, (.aload_n 0, 1), (0, 0, 0, 0)), (1, 4, (.getfield 47, 3), (7, 19, 1, 0)), (4, 6, (.bipush 10, 2), (0, 0, 0, 0)), (6, 7, (.iload_n 3, 1), (3, 0, 0, 0)), (7, 8, (.imul, 1), (0, 0, 0, 0)), (8, 10, (.iload 4, 2), (4, 0, 0, 0)), (10, 11, (.iadd, 1), (0, 0, 0, 0)), (11, 12, (.iaload, 1), (8, 0, 0, 0)), (12, 14, (.istore 7, 2), (7, 0, 0, 0)), (14, 16, (.iload 7, 2), (7, 0, 0, 0)), (16, 17, (.iload_n 1, 1), (1, 0, 0, 0)), (17, 20, (.if_icmp .ne 33, 3), (50, 0, 0, 0)), (20, 22, (.bipush 10, 2), (0, 0, 0, 0)), (22, 23, (.iload_n 2, 1), (2, 0, 0, 0)), (23, 25, (.bipush 99, 2), (0, 0, 0, 0)), (25, 28, (.if_icmp .ne 8, 3), (33, 0, 0, 0)), (28, 30, (.iload 5, 2), (5, 0, 0, 0)), (30, 33, (.goto 4, 3), (34, 0, 0, 0)), (33, 34, (.iload_n 3, 1), (3, 0, 0, 0)), (34, 35, (.imul, 1), (0, 0, 0, 0)), (35, 36, (.iload_n 2, 1), (2, 0, 0, 0)), (36, 38, (.bipush 114, 2), (0, 0, 0, 0)), (38, 41, (.if_icmp .ne 8, 3), (46, 0, 0, 0)), (41, 43, (.iload 6, 2), (6, 0, 0, 0)), (43, 46, (.goto 5, 3), (48, 0, 0, 0)), (46, 48, (.iload 4, 2), (4, 0, 0, 0)), (48, 49, (.iadd, 1), (0, 0, 0, 0)), (49, 50, (.ireturn, 1), (0, 0, 0, 0)), (50, 51, (.iconst 0, 1), (0, 0, 0, 0)), (51, 53, (.istore 8, 2), (8, 0, 0, 0)), (53, 55, (.iload 8, 2), (8, 0, 0, 0)), (55, 57, (.bipush 10, 2), (0, 0, 0, 0)), (57, 58, (.idiv, 1), (0, 0, 0, 0)), (58, 59, (.aload_n 0, 1), (0, 0, 0, 0)), (59, 62, (.getfield 7, 3), (7, 1, 0, 0)), (62, 65, (.if_icmp .ge 27, 3), (89, 0, 0, 0)), (65, 67, (.iload 8, 2), (8, 0, 0, 0)), (67, 69, (.bipush 10, 2), (0, 0, 0, 0)), (69, 70, (.irem, 1), (0, 0, 0, 0)), (70, 71, (.aload_n 0, 1), (0, 0, 0, 0)), (71, 74, (.getfield 13, 3), (7, 2, 0, 0)), (74, 77, (.if_icmp .ge 15, 3), (89, 0, 0, 0)), (77, 78, (.aload_n 0, 1), (0, 0, 0, 0)), (78, 81, (.getfield 47, 3), (7, 19, 1, 0)), (81, 83, (.iload 8, 2), (8, 0, 0, 0)), (83, 84, (.iaload, 1), (8, 0, 0, 0)), (84, 86, (.iload 7, 2), (7, 0, 0, 0)), (86, 89, (.if_icmp .eq 9, 3), (95, 0, 0, 0)), (89, 92, (.iinc 8 1, 3), (8, 0, 0, 0)), (92, 95, (.goto (-39), 3), (53, 0, 0, 0)), (95, 97, (.iload 8, 2), (8, 0, 0, 0)), (97, 98, (.ireturn, 1), (0, 0, 0, 0))], [(53, [0, 7, 8])], [], (1, 7), [])
def mc_X6_placed : mg_C := ([(0, 1, (.iconst 0, 1), (0, 0, 0, 0)), (1, 3, (.istore 5, 2), (5, 0, 0, 0)), (3, 5, (.iload 5, 2), (5, 0, 0, 0)), (5, 6, (.aload_n 0, 1), (0, 0, 0, 0)), (6, 9, (.getfield 7, 3), (7, 1, 0, 0)), (9, 12, (.if_icmp .ge 53, 3), (62, 0, 0, 0)), (12, 13, (.iconst 0, 1), (0, 0, 0, 0)), (13, 15, (.istore 6, 2), (6, 0, 0, 0)), (15, 17, (.iload 6, 2), (6, 0, 0, 0)), (17, 18, (.aload_n 0, 1), (0, 0, 0, 0)), (18, 21, (.getfield 13, 3), (7, 2, 0, 0)), (21, 24, (.if_icmp .ge 35, 3), (56, 0, 0, 0)), (24, 25, (.aload_n 0, 1), (0, 0, 0, 0)), (25, 28, (.getfield 16, 3), (7, 5, 1, 0)), (28, 30, (.bipush 10, 2), (0, 0, 0, 0)), (30, 32, (.iload 5, 2), (5, 0, 0, 0)), (32, 33, (.imul, 1), (0, 0, 0, 0)), (33, 35, (.iload 6, 2), (6, 0, 0, 0)), (35, 36, (.iadd, 1), (0, 0, 0, 0)), (36, 37, (.aload_n 0, 1), (0, 0, 0, 0)), (37, 38, (.iload_n 1, 1), (1, 0, 0, 0)), (38, 39, (.iload_n 2, 1), (2, 0, 0, 0)), (39, 41, (.iload 5, 2), (5, 0, 0, 0)), (41, 43, (.iload 6, 2), (6, 0, 0, 0)), (43, 44, (.iload_n 3, 1), (3, 0, 0, 0)), (44, 46, (.iload 4, 2), (4, 0, 0, 0)), (46, 49, (.invokevirtual 219, 3), (177, 6, 0, 7)), (49, 50, (.iastore, 1), (0, 0, 0, 0)), (50, 53, (.iinc 6 1, 3), (6, 0, 0, 0)), (53, 56, (.goto (-38), 3), (15, 0, 0, 0)), (56, 59, (.iinc 5 1, 3), (5, 0, 0, 0)), (59, 62, (.goto (-56), 3), (3, 0, 0, 0)), (62, 63, (.return_, 1), (0, 0, 0, 0))], [(3, [0, 1, 2, 3, 4, 5]), (15, [0, 1, 2, 3, 4, 5, 6])], [], (0, 7), [])
def mc_X6_spreads : mg_C := ([(0, 1, (.iconst 0, 1), (0, 0, 0, 0)), (1, 2, (.istore_n 2, 1), (2, 0, 0, 0)), (2, 3, (.iload_n 2, 1), (2, 0, 0, 0)), (3, 5, (.bipush 10, 2), (0, 0, 0, 0)), (5, 6, (.idiv, 1), (0, 0, 0, 0)), (6, 7, (.aload_n 0, 1), (0, 0, 0, 0)), (7, 10, (.getfield 7, 3), (7, 1, 0, 0)), (10, 13, (.if_icmp .ge 24, 3), (34, 0, 0, 0)), (13, 14, (.iload_n 2, 1), (2, 0, 0, 0)), (14, 16, (.bipush 10, 2), (0, 0, 0, 0)), (16, 17, (.irem, 1), (0, 0, 0, 0)), (17, 18, (.aload_n 0, 1), (0, 0, 0, 0)), (18, 21, (.getfield 13, 3), (7, 2, 0, 0)), (21, 24, (.if_icmp .ge 13, 3), (34, 0, 0, 0)), (24, 25, (.aload_n 0, 1), (0, 0, 0, 0)), (25, 28, (.getfield 47, 3), (7, 19, 1, 0)), (28, 29, (.iload_n 2, 1), (2, 0, 0, 0)), (29, 30, (.iaload, 1), (8, 0, 0, 0)), (30, 31, (.iload_n 1, 1), (1, 0, 0, 0)), (31, 34, (.if_icmp .eq 9, 3), (40, 0, 0, 0)), (34, 37, (.iinc 2 1, 3), (2, 0, 0, 0)), (37, 40, (.goto (-35), 3), (2, 0, 0, 0)), (40, 41, (.iconst 0, 1), (0, 0, 0, 0)), (41, 42, (.istore_n 3, 1), (3, 0, 0, 0)), (42, 43, (.iload_n 3, 1), (3, 0, 0, 0)), (43, 45, (.bipush 120, 2), (0, 0, 0, 0)), (45, 48, (.if_icmp .ge 128, 3), (173, 0, 0, 0)), (48, 49, (.iload_n 3, 1), (3, 0, 0, 0)), (49, 51, (.bipush 10, 2), (0, 0, 0, 0)), (51, 52, (.idiv, 1), (0, 0, 0, 0)), (52, 53, (.aload_n 0, 1), (0, 0, 0, 0)), (53, 56, (.getfield 7, 3), (7, 1, 0, 0)), (56, 59, (.if_icmp .ge 28, 3), (84, 0, 0, 0)), (59, 60, (.iload_n 3, 1), (3, 0, 0, 0)), (60, 62, (.bipush 10, 2), (0, 0, 0, 0)), (62, 63, (.irem, 1), (0, 0, 0, 0)), (63, 64, (.aload_n 0, 1), (0, 0, 0, 0)), (64, 67, (.getfield 13, 3), (7, 2, 0, 0)), (67, 70, (.if_icmp .ge 17, 3), (84, 0, 0, 0)), (70, 71, (.aload_n 0, 1), (0, 0, 0, 0)), (71, 74, (.getfield 16, 3), (7, 5, 1, 0)), (74, 75, (.iload_n 3, 1), (3, 0, 0, 0)), (75, 76, (.iaload, 1), (8, 0, 0, 0)), (76, 77, (.iload_n 3, 1), (3, 0, 0, 0)), (77, 80, (.if_icmp .ne 7, 3), (84, 0, 0, 0)), (80, 81, (.iconst 1, 1), (0, 0, 0, 0)), (81, 84, (.goto 4, 3), (85, 0, 0, 0)), (84, 85, (.iconst 0, 1), (0, 0, 0, 0)), (85, 87, (.istore 4, 2), (4, 0, 0, 0)), (87, 88, (.aload_n 0, 1), (0, 0, 0, 0)), (88, 91, (.getfield 62, 3), (7, 31, 1, 0)), (91, 92, (.iload_n 3, 1), (3, 0, 0, 0)), (92, 94, (.iload 4, 2), (4, 0, 0, 0)), (94, 97, (.ifCond .ne 7, 3), (101, 0, 0, 0)), (97, 98, (.iconst 0, 1), (0, 0, 0, 0)), (98, 101, (.goto 42, 3), (140, 0, 0, 0)), (101, 102, (.aload_n 0, 1), (0, 0, 0, 0)), (102, 105, (.getfield 47, 3), (7, 19, 1, 0)), (105, 106, (.iload_n 3, 1), (3, 0, 0, 0)), (106, 107, (.iaload, 1), (8, 0, 0, 0)), (107, 108, (.iload_n 1, 1), (1, 0, 0, 0)), (108, 111, (.if_icmp .ne 21, 3), (129, 0, 0, 0)), (111, 112, (.iload_n 3, 1), (3, 0, 0, 0)), (112, 113, (.iload_n 2, 1), (2, 0, 0, 0)), (113, 116, (.if_icmp .ne 12, 3), (125, 0, 0, 0)), (116, 117, (.aload_n 0, 1), (0, 0, 0, 0)), (117, 120, (.getfield 20, 3), (7, 6, 1, 0)), (120, 121, (.iload_n 1, 1), (1, 0, 0, 0)), (121, 122, (.iaload, 1), (8, 0, 0, 0)), (122, 125, (.goto 18, 3), (140, 0, 0, 0)), (125, 126, (.iconst 0, 1), (0, 0, 0, 0)), (126, 129, (.goto 14, 3), (140, 0, 0, 0)), (129, 130, (.aload_n 0, 1), (0, 0, 0, 0)), (130, 133, (.getfield 20, 3), (7, 6, 1, 0)), (133, 134, (.aload_n 0, 1), (0, 0, 0, 0)), (134, 137, (.getfield 47, 3), (7, 19, 1, 0)), (137, 138, (.iload_n 3, 1), (3, 0, 0, 0)), (138, 139, (.iaload, 1), (8, 0, 0, 0)), (139, 140, (.iaload, 1), (8, 0, 0, 0)), (140, 141, (.iastore, 1), (0, 0, 0, 0)), (141, 142, (.aload_n 0, 1), (0, 0, 0, 0)), (142, 145, (.getfield 50, 3), (7, 20, 1, 0)), (145, 146, (.iload_n 3, 1), (3, 0, 0, 0)), (146, 148, (.iload 4, 2), (4, 0, 0, 0)), (148, 151, (.ifCond .ne 7, 3), (155, 0, 0, 0)), (151, 152, (.iconst 0, 1), (0, 0, 0, 0)), (152, 155, (.goto 14, 3), (166, 0, 0, 0)), (155, 156, (.aload_n 0, 1), (0, 0, 0, 0)), (156, 159, (.getfield 23, 3), (7, 7, 1, 0)), (159, 160, (.aload_n 0, 1), (0, 0, 0, 0)), (160, 163, (.getfield 47, 3), (7, 19, 1, 0)), (163, 164, (.iload_n 3, 1), (3, 0, 0, 0)), (164, 165, (.iaload, 1), (8, 0, 0, 0)), (165, 166, (.iaload, 1), (8, 0, 0, 0)), (166, 167, (.iastore, 1), (0, 0, 0, 0)), (167, 170, (.iinc 3 1, 3), (3, 0, 0, 0)), (170, 173, (.goto (-128), 3), (42, 0, 0, 0)), (173, 174, (.iconst 0, 1), (0, 0, 0, 0)), (174, 175, (.istore_n 3, 1), (3, 0, 0, 0)), (175, 176, (.iload_n 3, 1), (3, 0, 0, 0)), (176, 179, (.sipush 140, 3), (0, 0, 0, 0)), (179, 182, (.if_icmp .ge 53, 3), (232, 0, 0, 0)), (182, 183, (.aload_n 0, 1), (0, 0, 0, 0)), (183, 186, (.getfield 20, 3), (7, 6, 1, 0)), (186, 187, (.iload_n 3, 1), (3, 0, 0, 0)), (187, 188, (.iload_n 3, 1), (3, 0, 0, 0)), (188, 190, (.bipush 120, 2), (0, 0, 0, 0)), (190, 193, (.if_icmp .ge 12, 3), (202, 0, 0, 0)), (193, 194, (.aload_n 0, 1), (0, 0, 0, 0)), (194, 197, (.getfield 62, 3), (7, 31, 1, 0)), (197, 198, (.iload_n 3, 1), (3, 0, 0, 0)), (198, 199, (.iaload, 1), (8, 0, 0, 0)), (199, 202, (.goto 4, 3), (203, 0, 0, 0)), (202, 203, (.iconst 0, 1), (0, 0, 0, 0)), (203, 204, (.iastore, 1), (0, 0, 0, 0)), (204, 205, (.aload_n 0, 1), (0, 0, 0, 0)), (205, 208, (.getfield 23, 3), (7, 7, 1, 0)), (208, 209, (.iload_n 3, 1), (3, 0, 0, 0)), (209, 210, (.iload_n 3, 1), (3, 0, 0, 0)), (210, 212, (.bipush 120, 2), (0, 0, 0, 0)), (212, 215, (.if_icmp .ge 12, 3), (224, 0, 0, 0)), (215, 216, (.aload_n 0, 1), (0, 0, 0, 0)), (216, 219, (.getfield 50, 3), (7, 20, 1, 0)), (219, 220, (.iload_n 3, 1), (3, 0, 0, 0)), (220, 221, (.iaload, 1), (8, 0, 0, 0)), (221, 224, (.goto 4, 3), (225, 0, 0, 0)), (224, 225, (.iconst 0, 1), (0, 0, 0, 0)), (225, 226, (.iastore, 1), (0, 0, 0, 0)), (226, 229, (.iinc 3 1, 3), (3, 0, 0, 0)), (229, 232, (.goto (-54), 3), (175, 0, 0, 0)), (232, 233, (.return_, 1), (0, 0, 0, 0))], [(2, [0, 1, 2]), (42, [0, 1, 2, 3]), (175, [0, 3])], [], (0, 7), [])
def mc_X6_clear : mg_C := ([(0, 1, (.aload_n 0, 1), (0, 0, 0, 0)), (1, 4, (.invokevirtual 202, 3), (172, 0, 0, 7)), (4, 5, (.istore_n 1, 1), (1, 0, 0, 0)), (5, 6, (.aload_n 0, 1), (0, 0, 0, 0)), (6, 7, (.iload_n 1, 1), (1, 0, 0, 0)), (7, 10, (.ifCond .ne 7, 3), (14, 0, 0, 0)), (10, 11, (.iconst 1, 1), (0, 0, 0, 0)), (11, 14, (.goto 4, 3), (15, 0, 0, 0)), (14, 15, (.iconst 0, 1), (0, 0, 0, 0)), (15, 18, (.invokevirtual 151, 3), (125, 1, 0, 7)), (18, 21, (.ifCond .eq 5, 3), (23, 0, 0, 0)), (21, 22, (.iconst 0, 1), (0, 0, 0, 0)), (22, 23, (.ireturn, 1), (0, 0, 0, 0)), (23, 24, (.aload_n 0, 1), (0, 0, 0, 0)), (24, 27, (.invokevirtual 154, 3), (131, 0, 0, 7)), (27, 28, (.iconst 0, 1), (0, 0, 0, 0)), (28, 29, (.istore_n 2, 1), (2, 0, 0, 0)), (29, 30, (.iload_n 2, 1), (2, 0, 0, 0)), (30, 31, (.aload_n 0, 1), (0, 0, 0, 0)), (31, 34, (.getfield 78, 3), (7, 4, 0, 0)), (34, 37, (.if_icmp .ge 33, 3), (67, 0, 0, 0)), (37, 38, (.aload_n 0, 1), (0, 0, 0, 0)), (38, 41, (.getfield 20, 3), (7, 6, 1, 0)), (41, 42, (.iload_n 2, 1), (2, 0, 0, 0)), (42, 43, (.aload_n 0, 1), (0, 0, 0, 0)), (43, 44, (.iload_n 2, 1), (2, 0, 0, 0)), (44, 47, (.invokevirtual 191, 3), (139, 1, 0, 7)), (47, 50, (.ifCond .eq 7, 3), (54, 0, 0, 0)), (50, 51, (.iconst 0, 1), (0, 0, 0, 0)), (51, 54, (.goto 9, 3), (60, 0, 0, 0)), (54, 55, (.aload_n 0, 1), (0, 0, 0, 0)), (55, 58, (.getfield 20, 3), (7, 6, 1, 0)), (58, 59, (.iload_n 2, 1), (2, 0, 0, 0)), (59, 60, (.iaload, 1), (8, 0, 0, 0)), (60, 61, (.iastore, 1), (0, 0, 0, 0)), (61, 64, (.iinc 2 1, 3), (2, 0, 0, 0)), (64, 67, (.goto (-35), 3), (29, 0, 0, 0)), (67, 68, (.iload_n 1, 1), (1, 0, 0, 0)), (68, 69, (.ireturn, 1), (0, 0, 0, 0))], [(29, [0, 1, 2])], [], (1, 7), [])
def mc_X6_copy : mg_C := ([(0, 1, (.aload_n 0, 1), (0, 0, 0, 0)), (1, 2, (.iconst 0, 1), (0, 0, 0, 0)), (2, 5, (.putfield 71, 3), (7, 0, 0, 0)), (5, 6, (.aload_n 0, 1), (0, 0, 0, 0)), (6, 7, (.aload_n 0, 1), (0, 0, 0, 0)), (7, 10, (.getfield 135, 3), (7, 22, 0, 0)), (10, 11, (.aload_n 0, 1), (0, 0, 0, 0)), (11, 14, (.getfield 132, 3), (7, 21, 0, 0)), (14, 15, (.isub, 1), (0, 0, 0, 0)), (15, 16, (.iconst 1, 1), (0, 0, 0, 0)), (16, 17, (.iadd, 1), (0, 0, 0, 0)), (17, 20, (.putfield 223, 3), (7, 25, 0, 0)), (20, 21, (.aload_n 0, 1), (0, 0, 0, 0)), (21, 22, (.aload_n 0, 1), (0, 0, 0, 0)), (22, 25, (.getfield 141, 3), (7, 24, 0, 0)), (25, 26, (.aload_n 0, 1), (0, 0, 0, 0)), (26, 29, (.getfield 138, 3), (7, 23, 0, 0)), (29, 30, (.isub, 1), (0, 0, 0, 0)), (30, 31, (.iconst 1, 1), (0, 0, 0, 0)), (31, 32, (.iadd, 1), (0, 0, 0, 0)), (32, 35, (.putfield 226, 3), (7, 26, 0, 0)), (35, 36, (.iconst 0, 1), (0, 0, 0, 0)), (36, 37, (.istore_n 1, 1), (1, 0, 0, 0)), (37, 38, (.iload_n 1, 1), (1, 0, 0, 0)), (38, 39, (.aload_n 0, 1), (0, 0, 0, 0)), (39, 42, (.getfield 223, 3), (7, 25, 0, 0)), (42, 45, (.if_icmp .ge 52, 3), (94, 0, 0, 0)), (45, 46, (.iconst 0, 1), (0, 0, 0, 0)), (46, 47, (.istore_n 2, 1), (2, 0, 0, 0)), (47, 48, (.iload_n 2, 1), (2, 0, 0, 0)), (48, 49, (.aload_n 0, 1), (0, 0, 0, 0)), (49, 52, (.getfield 226, 3), (7, 26, 0, 0)), (52, 55, (.if_icmp .ge 36, 3), (88, 0, 0, 0)), (55, 56, (.aload_n 0, 1), (0, 0, 0, 0)), (56, 59, (.getfield 53, 3), (7, 28, 1, 0)), (59, 61, (.bipush 10, 2), (0, 0, 0, 0)), (61, 62, (.iload_n 1, 1), (1, 0, 0, 0)), (62, 63, (.imul, 1), (0, 0, 0, 0)), (63, 64, (.iload_n 2, 1), (2, 0, 0, 0)), (64, 65, (.iadd, 1), (0, 0, 0, 0)), (65, 66, (.aload_n 0, 1), (0, 0, 0, 0)), (66, 67, (.aload_n 0, 1), (0, 0, 0, 0)), (67, 70, (.getfield 132, 3), (7, 21, 0, 0)), (70, 71, (.iload_n 1, 1), (1, 0, 0, 0)), (71, 72, (.iadd, 1), (0, 0, 0, 0)), (72, 73, (.aload_n 0, 1), (0, 0, 0, 0)), (73, 76, (.getfield 138, 3), (7, 23, 0, 0)), (76, 77, (.iload_n 2, 1), (2, 0, 0, 0)), (77, 78, (.iadd, 1), (0, 0, 0, 0)), (78, 81, (.invokevirtual 81, 3), (128, 2, 0, 7)), (81, 82, (.iastore, 1), (0, 0, 0, 0)), (82, 85, (.iinc 2 1, 3), (2, 0, 0, 0)), (85, 88, (.goto (-38), 3), (47, 0, 0, 0)), (88, 91, (.iinc 1 1, 3), (1, 0, 0, 0)), (91, 94, (.goto (-54), 3), (37, 0, 0, 0)), (94, 95, (.iconst 0, 1), (0, 0, 0, 0)), (95, 96, (.istore_n 1, 1), (1, 0, 0, 0)), (96, 97, (.iload_n 1, 1), (1, 0, 0, 0)), (97, 100, (.sipush 140, 3), (0, 0, 0, 0)), (100, 103, (.if_icmp .ge 33, 3), (133, 0, 0, 0)), (103, 104, (.aload_n 0, 1), (0, 0, 0, 0)), (104, 107, (.getfield 56, 3), (7, 29, 1, 0)), (107, 108, (.iload_n 1, 1), (1, 0, 0, 0)), (108, 109, (.aload_n 0, 1), (0, 0, 0, 0)), (109, 112, (.getfield 20, 3), (7, 6, 1, 0)), (112, 113, (.iload_n 1, 1), (1, 0, 0, 0)), (113, 114, (.iaload, 1), (8, 0, 0, 0)), (114, 115, (.iastore, 1), (0, 0, 0, 0)), (115, 116, (.aload_n 0, 1), (0, 0, 0, 0)), (116, 119, (.getfield 59, 3), (7, 30, 1, 0)), (119, 120, (.iload_n 1, 1), (1, 0, 0, 0)), (120, 121, (.aload_n 0, 1), (0, 0, 0, 0)), (121, 124, (.getfield 23, 3), (7, 7, 1, 0)), (124, 125, (.iload_n 1, 1), (1, 0, 0, 0)), (125, 126, (.iaload, 1), (8, 0, 0, 0)), (126, 127, (.iastore, 1), (0, 0, 0, 0)), (127, 130, (.iinc 1 1, 3), (1, 0, 0, 0)), (130, 133, (.goto (-34), 3), (96, 0, 0, 0)), (133, 134, (.aload_n 0, 1), (0, 0, 0, 0)), (134, 135, (.aload_n 0, 1), (0, 0, 0, 0)), (135, 138, (.invokevirtual 198, 3), (169, 0, 0, 7)), (138, 141, (.putfield 229, 3), (7, 27, 0, 0)), (141, 142, (.aload_n 0, 1), (0, 0, 0, 0)), (142, 145, (.getfield 229, 3), (7, 27, 0, 0)), (145, 146, (.ireturn, 1), (0, 0, 0, 0))], [(37, [0, 1]), (47, [0, 1, 2]), (96, [0, 1])], [], (1, 7), [])
def mc_X6_isParted : mg_C := ([(0, 1, (.iconst 0, 1), (0, 0, 0, 0)), (1, 2, (.istore_n 3, 1), (3, 0, 0, 0)), (2, 3, (.iconst 1, 1), (0, 0, 0, 0)), (3, 5, (.istore 4, 2), (4, 0, 0, 0)), (5, 7, (.iload 4, 2), (4, 0, 0, 0)), (7, 8, (.aload_n 0, 1), (0, 0, 0, 0)), (8, 11, (.getfield 223, 3), (7, 25, 0, 0)), (11, 12, (.iload_n 2, 1), (2, 0, 0, 0)), (12, 13, (.imul, 1), (0, 0, 0, 0)), (13, 16, (.if_icmp .ge 99, 3), (112, 0, 0, 0)), (16, 17, (.iconst 0, 1), (0, 0, 0, 0)), (17, 19, (.istore 5, 2), (5, 0, 0, 0)), (19, 21, (.iload 5, 2), (5, 0, 0, 0)), (21, 22, (.aload_n 0, 1), (0, 0, 0, 0)), (22, 25, (.getfield 226, 3), (7, 26, 0, 0)), (25, 28, (.if_icmp .ge 81, 3), (106, 0, 0, 0)), (28, 29, (.iload_n 1, 1), (1, 0, 0, 0)), (29, 31, (.iload 4, 2), (4, 0, 0, 0)), (31, 32, (.iadd, 1), (0, 0, 0, 0)), (32, 33, (.aload_n 0, 1), (0, 0, 0, 0)), (33, 36, (.getfield 99, 3), (7, 3, 0, 0)), (36, 39, (.if_icmp .ne 70, 3), (106, 0, 0, 0)), (39, 41, (.iload 4, 2), (4, 0, 0, 0)), (41, 42, (.aload_n 0, 1), (0, 0, 0, 0)), (42, 45, (.getfield 223, 3), (7, 25, 0, 0)), (45, 46, (.irem, 1), (0, 0, 0, 0)), (46, 49, (.ifCond .le 60, 3), (106, 0, 0, 0)), (49, 50, (.iload_n 3, 1), (3, 0, 0, 0)), (50, 53, (.ifCond .ne 44, 3), (94, 0, 0, 0)), (53, 54, (.aload_n 0, 1), (0, 0, 0, 0)), (54, 57, (.getfield 53, 3), (7, 28, 1, 0)), (57, 59, (.bipush 10, 2), (0, 0, 0, 0)), (59, 61, (.iload 4, 2), (4, 0, 0, 0)), (61, 62, (.aload_n 0, 1), (0, 0, 0, 0)), (62, 65, (.getfield 223, 3), (7, 25, 0, 0)), (65, 66, (.irem, 1), (0, 0, 0, 0)), (66, 67, (.imul, 1), (0, 0, 0, 0)), (67, 69, (.iload 5, 2), (5, 0, 0, 0)), (69, 70, (.iadd, 1), (0, 0, 0, 0)), (70, 71, (.iaload, 1), (8, 0, 0, 0)), (71, 72, (.aload_n 0, 1), (0, 0, 0, 0)), (72, 75, (.getfield 53, 3), (7, 28, 1, 0)), (75, 77, (.bipush 10, 2), (0, 0, 0, 0)), (77, 79, (.iload 4, 2), (4, 0, 0, 0)), (79, 80, (.aload_n 0, 1), (0, 0, 0, 0)), (80, 83, (.getfield 223, 3), (7, 25, 0, 0)), (83, 84, (.irem, 1), (0, 0, 0, 0)), (84, 85, (.iconst 1, 1), (0, 0, 0, 0)), (85, 86, (.isub, 1), (0, 0, 0, 0)), (86, 87, (.imul, 1), (0, 0, 0, 0)), (87, 89, (.iload 5, 2), (5, 0, 0, 0)), (89, 90, (.iadd, 1), (0, 0, 0, 0)), (90, 91, (.iaload, 1), (8, 0, 0, 0)), (91, 94, (.if_icmp .ne 7, 3), (98, 0, 0, 0)), (94, 95, (.iconst 1, 1), (0, 0, 0, 0)), (95, 98, (.goto 4, 3), (99, 0, 0, 0)), (98, 99, (.iconst 0, 1), (0, 0, 0, 0)), (99, 100, (.istore_n 3, 1), (3, 0, 0, 0)), (100, 103, (.iinc 5 1, 3), (5, 0, 0, 0)), (103, 106, (.goto (-84), 3), (19, 0, 0, 0)), (106, 109, (.iinc 4 1, 3), (4, 0, 0, 0)), (109, 112, (.goto (-104), 3), (5, 0, 0, 0)), (112, 113, (.iload_n 3, 1), (3, 0, 0, 0)), (113, 114, (.ireturn, 1), (0, 0, 0, 0))], [(5, [0, 1, 2, 3, 4]), (19, [0, 1, 2, 3, 4, 5])], [], (2, 7), [])
def mc_X6_isAnyCut : mg_C := ([(0, 1, (.iconst 0, 1), (0, 0, 0, 0)), (1, 2, (.istore_n 1, 1), (1, 0, 0, 0)), (2, 3, (.iconst 0, 1), (0, 0, 0, 0)), (3, 4, (.istore_n 2, 1), (2, 0, 0, 0)), (4, 5, (.iload_n 2, 1), (2, 0, 0, 0)), (5, 6, (.aload_n 0, 1), (0, 0, 0, 0)), (6, 9, (.getfield 78, 3), (7, 4, 0, 0)), (9, 12, (.if_icmp .ge 27, 3), (36, 0, 0, 0)), (12, 13, (.iload_n 1, 1), (1, 0, 0, 0)), (13, 16, (.ifCond .ne 11, 3), (24, 0, 0, 0)), (16, 17, (.aload_n 0, 1), (0, 0, 0, 0)), (17, 18, (.iload_n 2, 1), (2, 0, 0, 0)), (18, 21, (.invokevirtual 121, 3), (133, 1, 0, 7)), (21, 24, (.ifCond .eq 7, 3), (28, 0, 0, 0)), (24, 25, (.iconst 1, 1), (0, 0, 0, 0)), (25, 28, (.goto 4, 3), (29, 0, 0, 0)), (28, 29, (.iconst 0, 1), (0, 0, 0, 0)), (29, 30, (.istore_n 1, 1), (1, 0, 0, 0)), (30, 33, (.iinc 2 1, 3), (2, 0, 0, 0)), (33, 36, (.goto (-29), 3), (4, 0, 0, 0)), (36, 37, (.iload_n 1, 1), (1, 0, 0, 0)), (37, 38, (.ireturn, 1), (0, 0, 0, 0))], [(4, [0, 1, 2])], [], (2, 7), [])
def mc_X6_paste : mg_C := ([(0, 1, (.aload_n 0, 1), (0, 0, 0, 0)), (1, 2, (.aload_n 0, 1), (0, 0, 0, 0)), (2, 3, (.iload_n 1, 1), (1, 0, 0, 0)), (3, 4, (.iload_n 2, 1), (2, 0, 0, 0)), (4, 7, (.invokevirtual 172, 3), (127, 2, 0, 7)), (7, 10, (.ifCond .ne 7, 3), (14, 0, 0, 0)), (10, 11, (.iconst 1, 1), (0, 0, 0, 0)), (11, 14, (.goto 27, 3), (38, 0, 0, 0)), (14, 15, (.iload_n 3, 1), (3, 0, 0, 0)), (15, 16, (.iconst 1, 1), (0, 0, 0, 0)), (16, 17, (.iconst 4, 1), (0, 0, 0, 0)), (17, 20, (.invokestatic 74, 3), (126, 3, 0, 0)), (20, 23, (.ifCond .eq 13, 3), (33, 0, 0, 0)), (23, 25, (.iload 4, 2), (4, 0, 0, 0)), (25, 26, (.iconst 1, 1), (0, 0, 0, 0)), (26, 27, (.iconst 4, 1), (0, 0, 0, 0)), (27, 30, (.invokestatic 74, 3), (126, 3, 0, 0)), (30, 33, (.ifCond .ne 7, 3), (37, 0, 0, 0)), (33, 34, (.iconst 2, 1), (0, 0, 0, 0)), (34, 37, (.goto 4, 3), (38, 0, 0, 0)), (37, 38, (.iconst 0, 1), (0, 0, 0, 0)), (38, 41, (.invokevirtual 151, 3), (125, 1, 0, 7)), (41, 44, (.ifCond .eq 5, 3), (46, 0, 0, 0)), (44, 45, (.iconst 0, 1), (0, 0, 0, 0)), (45, 46, (.ireturn, 1), (0, 0, 0, 0)), (46, 47, (.aload_n 0, 1), (0, 0, 0, 0)), (47, 50, (.getfield 229, 3), (7, 27, 0, 0)), (50, 53, (.ifCond .le 38, 3), (88, 0, 0, 0)), (53, 54, (.iload_n 1, 1), (1, 0, 0, 0)), (54, 55, (.iload_n 3, 1), (3, 0, 0, 0)), (55, 56, (.aload_n 0, 1), (0, 0, 0, 0)), (56, 59, (.getfield 223, 3), (7, 25, 0, 0)), (59, 60, (.imul, 1), (0, 0, 0, 0)), (60, 61, (.iadd, 1), (0, 0, 0, 0)), (61, 62, (.aload_n 0, 1), (0, 0, 0, 0)), (62, 65, (.getfield 7, 3), (7, 1, 0, 0)), (65, 68, (.if_icmp .gt 23, 3), (88, 0, 0, 0)), (68, 69, (.iload_n 2, 1), (2, 0, 0, 0)), (69, 71, (.iload 4, 2), (4, 0, 0, 0)), (71, 72, (.aload_n 0, 1), (0, 0, 0, 0)), (72, 75, (.getfield 226, 3), (7, 26, 0, 0)), (75, 76, (.imul, 1), (0, 0, 0, 0)), (76, 77, (.iadd, 1), (0, 0, 0, 0)), (77, 78, (.aload_n 0, 1), (0, 0, 0, 0)), (78, 81, (.getfield 13, 3), (7, 2, 0, 0)), (81, 84, (.if_icmp .gt 7, 3), (88, 0, 0, 0)), (84, 85, (.iconst 1, 1), (0, 0, 0, 0)), (85, 88, (.goto 4, 3), (89, 0, 0, 0)), (88, 89, (.iconst 0, 1), (0, 0, 0, 0)), (89, 91, (.istore 5, 2), (5, 0, 0, 0)), (91, 92, (.aload_n 0, 1), (0, 0, 0, 0)), (92, 94, (.iload 5, 2), (5, 0, 0, 0)), (94, 97, (.ifCond .eq 7, 3), (101, 0, 0, 0)), (97, 98, (.iconst 0, 1), (0, 0, 0, 0)), (98, 101, (.goto 4, 3), (102, 0, 0, 0)), (101, 102, (.iconst 3, 1), (0, 0, 0, 0)), (102, 105, (.invokevirtual 151, 3), (125, 1, 0, 7)), (105, 108, (.ifCond .eq 5, 3), (110, 0, 0, 0)), (108, 109, (.iconst 0, 1), (0, 0, 0, 0)), (109, 110, (.ireturn, 1), (0, 0, 0, 0)), (110, 111, (.aload_n 0, 1), (0, 0, 0, 0)), (111, 112, (.iload_n 1, 1), (1, 0, 0, 0)), (112, 115, (.putfield 105, 3), (7, 32, 0, 0)), (115, 116, (.aload_n 0, 1), (0, 0, 0, 0)), (116, 117, (.iload_n 1, 1), (1, 0, 0, 0)), (117, 118, (.iload_n 3, 1), (3, 0, 0, 0)), (118, 119, (.aload_n 0, 1), (0, 0, 0, 0)), (119, 122, (.getfield 223, 3), (7, 25, 0, 0)), (122, 123, (.imul, 1), (0, 0, 0, 0)), (123, 124, (.iadd, 1), (0, 0, 0, 0)), (124, 125, (.iconst 1, 1), (0, 0, 0, 0)), (125, 126, (.isub, 1), (0, 0, 0, 0)), (126, 129, (.putfield 108, 3), (7, 33, 0, 0)), (129, 130, (.aload_n 0, 1), (0, 0, 0, 0)), (130, 131, (.iload_n 2, 1), (2, 0, 0, 0)), (131, 134, (.putfield 111, 3), (7, 34, 0, 0)), (134, 135, (.aload_n 0, 1), (0, 0, 0, 0)), (135, 136, (.iload_n 2, 1), (2, 0, 0, 0)), (136, 138, (.iload 4, 2), (4, 0, 0, 0)), (138, 139, (.aload_n 0, 1), (0, 0, 0, 0)), (139, 142, (.getfield 226, 3), (7, 26, 0, 0)), (142, 143, (.imul, 1), (0, 0, 0, 0)), (143, 144, (.iadd, 1), (0, 0, 0, 0)), (144, 145, (.iconst 1, 1), (0, 0, 0, 0)), (145, 146, (.isub, 1), (0, 0, 0, 0)), (146, 149, (.putfield 114, 3), (7, 35, 0, 0)), (149, 150, (.aload_n 0, 1), (0, 0, 0, 0)), (150, 151, (.aload_n 0, 1), (0, 0, 0, 0)), (151, 154, (.invokevirtual 232, 3), (183, 0, 0, 7)), (154, 157, (.ifCond .ne 12, 3), (166, 0, 0, 0)), (157, 158, (.aload_n 0, 1), (0, 0, 0, 0)), (158, 159, (.iload_n 1, 1), (1, 0, 0, 0)), (159, 160, (.iload_n 3, 1), (3, 0, 0, 0)), (160, 163, (.invokevirtual 236, 3), (182, 2, 0, 7)), (163, 166, (.ifCond .eq 7, 3), (170, 0, 0, 0)), (166, 167, (.iconst 4, 1), (0, 0, 0, 0)), (167, 170, (.goto 4, 3), (171, 0, 0, 0)), (170, 171, (.iconst 0, 1), (0, 0, 0, 0)), (171, 174, (.invokevirtual 151, 3), (125, 1, 0, 7)), (174, 177, (.ifCond .eq 5, 3), (179, 0, 0, 0)), (177, 178, (.iconst 0, 1), (0, 0, 0, 0)), (178, 179, (.ireturn, 1), (0, 0, 0, 0)), (179, 180, (.aload_n 0, 1), (0, 0, 0, 0)), (180, 183, (.invokevirtual 154, 3), (131, 0, 0, 7)), (183, 184, (.aload_n 0, 1), (0, 0, 0, 0)), (184, 187, (.invokevirtual 239, 3), (185, 0, 0, 7)), (187, 188, (.aload_n 0, 1), (0, 0, 0, 0)), (188, 191, (.invokevirtual 163, 3), (138, 0, 0, 7)), (191, 192, (.iload_n 3, 1), (3, 0, 0, 0)), (192, 194, (.iload 4, 2), (4, 0, 0, 0)), (194, 195, (.imul, 1), (0, 0, 0, 0)), (195, 196, (.aload_n 0, 1), (0, 0, 0, 0)), (196, 199, (.getfield 229, 3), (7, 27, 0, 0)), (199, 200, (.imul, 1), (0, 0, 0, 0)), (200, 201, (.ireturn, 1), (0, 0, 0, 0))], [], [], (1, 7), [])
def mc_X6_lays : mg_C := ([(0, 1, (.aload_n 0, 1), (0, 0, 0, 0)), (1, 4, (.invokevirtual 157, 3), (144, 0, 0, 7)), (4, 5, (.iconst 0, 1), (0, 0, 0, 0)), (5, 6, (.istore_n 1, 1), (1, 0, 0, 0)), (6, 7, (.iload_n 1, 1), (1, 0, 0, 0)), (7, 9, (.bipush 120, 2), (0, 0, 0, 0)), (9, 12, (.if_icmp .ge 23, 3), (32, 0, 0, 0)), (12, 13, (.aload_n 0, 1), (0, 0, 0, 0)), (13, 16, (.getfield 62, 3), (7, 31, 1, 0)), (16, 17, (.iload_n 1, 1), (1, 0, 0, 0)), (17, 18, (.iconst 0, 1), (0, 0, 0, 0)), (18, 19, (.iastore, 1), (0, 0, 0, 0)), (19, 20, (.aload_n 0, 1), (0, 0, 0, 0)), (20, 23, (.getfield 50, 3), (7, 20, 1, 0)), (23, 24, (.iload_n 1, 1), (1, 0, 0, 0)), (24, 25, (.iconst 0, 1), (0, 0, 0, 0)), (25, 26, (.iastore, 1), (0, 0, 0, 0)), (26, 29, (.iinc 1 1, 3), (1, 0, 0, 0)), (29, 32, (.goto (-23), 3), (6, 0, 0, 0)), (32, 33, (.iconst 0, 1), (0, 0, 0, 0)), (33, 34, (.istore_n 1, 1), (1, 0, 0, 0)), (34, 35, (.iload_n 1, 1), (1, 0, 0, 0)), (35, 36, (.aload_n 0, 1), (0, 0, 0, 0)), (36, 39, (.getfield 7, 3), (7, 1, 0, 0)), (39, 42, (.if_icmp .ge 182, 3), (221, 0, 0, 0)), (42, 43, (.iconst 0, 1), (0, 0, 0, 0)), (43, 44, (.istore_n 2, 1), (2, 0, 0, 0)), (44, 45, (.iload_n 2, 1), (2, 0, 0, 0)), (45, 46, (.aload_n 0, 1), (0, 0, 0, 0)), (46, 49, (.getfield 13, 3), (7, 2, 0, 0)), (49, 52, (.if_icmp .ge 166, 3), (215, 0, 0, 0)), (52, 53, (.aload_n 0, 1), (0, 0, 0, 0)), (53, 54, (.iload_n 1, 1), (1, 0, 0, 0)), (54, 55, (.iload_n 2, 1), (2, 0, 0, 0)), (55, 58, (.invokevirtual 117, 3), (132, 2, 0, 7)), (58, 61, (.ifCond .eq 12, 3), (70, 0, 0, 0)), (61, 62, (.aload_n 0, 1), (0, 0, 0, 0)), (62, 63, (.iload_n 1, 1), (1, 0, 0, 0)), (63, 64, (.iload_n 2, 1), (2, 0, 0, 0)), (64, 67, (.invokevirtual 242, 3), (187, 2, 0, 7)), (67, 70, (.goto 9, 3), (76, 0, 0, 0)), (70, 71, (.aload_n 0, 1), (0, 0, 0, 0)), (71, 72, (.iload_n 1, 1), (1, 0, 0, 0)), (72, 73, (.iload_n 2, 1), (2, 0, 0, 0)), (73, 76, (.invokevirtual 245, 3), (186, 2, 0, 7)), (76, 77, (.istore_n 3, 1), (3, 0, 0, 0)), (77, 78, (.aload_n 0, 1), (0, 0, 0, 0)), (78, 81, (.getfield 16, 3), (7, 5, 1, 0)), (81, 83, (.bipush 10, 2), (0, 0, 0, 0)), (83, 84, (.iload_n 1, 1), (1, 0, 0, 0)), (84, 85, (.imul, 1), (0, 0, 0, 0)), (85, 86, (.iload_n 2, 1), (2, 0, 0, 0)), (86, 87, (.iadd, 1), (0, 0, 0, 0)), (87, 88, (.iload_n 3, 1), (3, 0, 0, 0)), (88, 89, (.iastore, 1), (0, 0, 0, 0)), (89, 90, (.aload_n 0, 1), (0, 0, 0, 0)), (90, 91, (.iload_n 1, 1), (1, 0, 0, 0)), (91, 92, (.iload_n 2, 1), (2, 0, 0, 0)), (92, 95, (.invokevirtual 117, 3), (132, 2, 0, 7)), (95, 98, (.ifCond .eq 37, 3), (132, 0, 0, 0)), (98, 99, (.aload_n 0, 1), (0, 0, 0, 0)), (99, 102, (.getfield 53, 3), (7, 28, 1, 0)), (102, 104, (.bipush 10, 2), (0, 0, 0, 0)), (104, 105, (.iload_n 1, 1), (1, 0, 0, 0)), (105, 106, (.aload_n 0, 1), (0, 0, 0, 0)), (106, 109, (.getfield 105, 3), (7, 32, 0, 0)), (109, 110, (.isub, 1), (0, 0, 0, 0)), (110, 111, (.aload_n 0, 1), (0, 0, 0, 0)), (111, 114, (.getfield 223, 3), (7, 25, 0, 0)), (114, 115, (.irem, 1), (0, 0, 0, 0)), (115, 116, (.imul, 1), (0, 0, 0, 0)), (116, 117, (.iload_n 2, 1), (2, 0, 0, 0)), (117, 118, (.aload_n 0, 1), (0, 0, 0, 0)), (118, 121, (.getfield 111, 3), (7, 34, 0, 0)), (121, 122, (.isub, 1), (0, 0, 0, 0)), (122, 123, (.aload_n 0, 1), (0, 0, 0, 0)), (123, 126, (.getfield 226, 3), (7, 26, 0, 0)), (126, 127, (.irem, 1), (0, 0, 0, 0)), (127, 128, (.iadd, 1), (0, 0, 0, 0)), (128, 129, (.iaload, 1), (8, 0, 0, 0)), (129, 132, (.goto 14, 3), (143, 0, 0, 0)), (132, 133, (.aload_n 0, 1), (0, 0, 0, 0)), (133, 136, (.getfield 47, 3), (7, 19, 1, 0)), (136, 138, (.bipush 10, 2), (0, 0, 0, 0)), (138, 139, (.iload_n 1, 1), (1, 0, 0, 0)), (139, 140, (.imul, 1), (0, 0, 0, 0)), (140, 141, (.iload_n 2, 1), (2, 0, 0, 0)), (141, 142, (.iadd, 1), (0, 0, 0, 0)), (142, 143, (.iaload, 1), (8, 0, 0, 0)), (143, 145, (.istore 4, 2), (4, 0, 0, 0)), (145, 146, (.aload_n 0, 1), (0, 0, 0, 0)), (146, 149, (.getfield 62, 3), (7, 31, 1, 0)), (149, 150, (.iload_n 3, 1), (3, 0, 0, 0)), (150, 151, (.aload_n 0, 1), (0, 0, 0, 0)), (151, 152, (.iload_n 1, 1), (1, 0, 0, 0)), (152, 153, (.iload_n 2, 1), (2, 0, 0, 0)), (153, 156, (.invokevirtual 117, 3), (132, 2, 0, 7)), (156, 159, (.ifCond .eq 13, 3), (169, 0, 0, 0)), (159, 160, (.aload_n 0, 1), (0, 0, 0, 0)), (160, 163, (.getfield 56, 3), (7, 29, 1, 0)), (163, 165, (.iload 4, 2), (4, 0, 0, 0)), (165, 166, (.iaload, 1), (8, 0, 0, 0)), (166, 169, (.goto 10, 3), (176, 0, 0, 0)), (169, 170, (.aload_n 0, 1), (0, 0, 0, 0)), (170, 173, (.getfield 20, 3), (7, 6, 1, 0)), (173, 175, (.iload 4, 2), (4, 0, 0, 0)), (175, 176, (.iaload, 1), (8, 0, 0, 0)), (176, 177, (.iastore, 1), (0, 0, 0, 0)), (177, 178, (.aload_n 0, 1), (0, 0, 0, 0)), (178, 181, (.getfield 50, 3), (7, 20, 1, 0)), (181, 182, (.iload_n 3, 1), (3, 0, 0, 0)), (182, 183, (.aload_n 0, 1), (0, 0, 0, 0)), (183, 184, (.iload_n 1, 1), (1, 0, 0, 0)), (184, 185, (.iload_n 2, 1), (2, 0, 0, 0)), (185, 188, (.invokevirtual 117, 3), (132, 2, 0, 7)), (188, 191, (.ifCond .eq 13, 3), (201, 0, 0, 0)), (191, 192, (.aload_n 0, 1), (0, 0, 0, 0)), (192, 195, (.getfield 59, 3), (7, 30, 1, 0)), (195, 197, (.iload 4, 2), (4, 0, 0, 0)), (197, 198, (.iaload, 1), (8, 0, 0, 0)), (198, 201, (.goto 10, 3), (208, 0, 0, 0)), (201, 202, (.aload_n 0, 1), (0, 0, 0, 0)), (202, 205, (.getfield 23, 3), (7, 7, 1, 0)), (205, 207, (.iload 4, 2), (4, 0, 0, 0)), (207, 208, (.iaload, 1), (8, 0, 0, 0)), (208, 209, (.iastore, 1), (0, 0, 0, 0)), (209, 212, (.iinc 2 1, 3), (2, 0, 0, 0)), (212, 215, (.goto (-168), 3), (44, 0, 0, 0)), (215, 218, (.iinc 1 1, 3), (1, 0, 0, 0)), (218, 221, (.goto (-184), 3), (34, 0, 0, 0)), (221, 222, (.iconst 0, 1), (0, 0, 0, 0)), (222, 223, (.istore_n 1, 1), (1, 0, 0, 0)), (223, 224, (.iload_n 1, 1), (1, 0, 0, 0)), (224, 227, (.sipush 140, 3), (0, 0, 0, 0)), (227, 230, (.if_icmp .ge 53, 3), (280, 0, 0, 0)), (230, 231, (.aload_n 0, 1), (0, 0, 0, 0)), (231, 234, (.getfield 20, 3), (7, 6, 1, 0)), (234, 235, (.iload_n 1, 1), (1, 0, 0, 0)), (235, 236, (.iload_n 1, 1), (1, 0, 0, 0)), (236, 238, (.bipush 120, 2), (0, 0, 0, 0)), (238, 241, (.if_icmp .ge 12, 3), (250, 0, 0, 0)), (241, 242, (.aload_n 0, 1), (0, 0, 0, 0)), (242, 245, (.getfield 62, 3), (7, 31, 1, 0)), (245, 246, (.iload_n 1, 1), (1, 0, 0, 0)), (246, 247, (.iaload, 1), (8, 0, 0, 0)), (247, 250, (.goto 4, 3), (251, 0, 0, 0)), (250, 251, (.iconst 0, 1), (0, 0, 0, 0)), (251, 252, (.iastore, 1), (0, 0, 0, 0)), (252, 253, (.aload_n 0, 1), (0, 0, 0, 0)), (253, 256, (.getfield 23, 3), (7, 7, 1, 0)), (256, 257, (.iload_n 1, 1), (1, 0, 0, 0)), (257, 258, (.iload_n 1, 1), (1, 0, 0, 0)), (258, 260, (.bipush 120, 2), (0, 0, 0, 0)), (260, 263, (.if_icmp .ge 12, 3), (272, 0, 0, 0)), (263, 264, (.aload_n 0, 1), (0, 0, 0, 0)), (264, 267, (.getfield 50, 3), (7, 20, 1, 0)), (267, 268, (.iload_n 1, 1), (1, 0, 0, 0)), (268, 269, (.iaload, 1), (8, 0, 0, 0)), (269, 272, (.goto 4, 3), (273, 0, 0, 0)), (272, 273, (.iconst 0, 1), (0, 0, 0, 0)), (273, 274, (.iastore, 1), (0, 0, 0, 0)), (274, 277, (.iinc 1 1, 3), (1, 0, 0, 0)), (277, 280, (.goto (-54), 3), (223, 0, 0, 0)), (280, 281, (.aload_n 0, 1), (0, 0, 0, 0)), (281, 284, (.invokevirtual 68, 3), (129, 0, 0, 7)), (284, 285, (.return_, 1), (0, 0, 0, 0))], [(6, [0, 1]), (34, [0, 1]), (44, [0, 1, 2]), (223, [0, 1])], [], (0, 7), [])
def mc_X6_oldBegin : mg_C := ([(0, 1, (.iconst 0, 1), (0, 0, 0, 0)), (1, 2, (.istore_n 3, 1), (3, 0, 0, 0)), (2, 3, (.iload_n 3, 1), (3, 0, 0, 0)), (3, 5, (.bipush 10, 2), (0, 0, 0, 0)), (5, 6, (.idiv, 1), (0, 0, 0, 0)), (6, 7, (.aload_n 0, 1), (0, 0, 0, 0)), (7, 10, (.getfield 7, 3), (7, 1, 0, 0)), (10, 13, (.if_icmp .ge 34, 3), (44, 0, 0, 0)), (13, 14, (.iload_n 3, 1), (3, 0, 0, 0)), (14, 16, (.bipush 10, 2), (0, 0, 0, 0)), (16, 17, (.irem, 1), (0, 0, 0, 0)), (17, 18, (.aload_n 0, 1), (0, 0, 0, 0)), (18, 21, (.getfield 13, 3), (7, 2, 0, 0)), (21, 24, (.if_icmp .ge 23, 3), (44, 0, 0, 0)), (24, 25, (.aload_n 0, 1), (0, 0, 0, 0)), (25, 28, (.getfield 47, 3), (7, 19, 1, 0)), (28, 29, (.iload_n 3, 1), (3, 0, 0, 0)), (29, 30, (.iaload, 1), (8, 0, 0, 0)), (30, 31, (.aload_n 0, 1), (0, 0, 0, 0)), (31, 34, (.getfield 47, 3), (7, 19, 1, 0)), (34, 36, (.bipush 10, 2), (0, 0, 0, 0)), (36, 37, (.iload_n 1, 1), (1, 0, 0, 0)), (37, 38, (.imul, 1), (0, 0, 0, 0)), (38, 39, (.iload_n 2, 1), (2, 0, 0, 0)), (39, 40, (.iadd, 1), (0, 0, 0, 0)), (40, 41, (.iaload, 1), (8, 0, 0, 0)), (41, 44, (.if_icmp .eq 9, 3), (50, 0, 0, 0)), (44, 47, (.iinc 3 1, 3), (3, 0, 0, 0)), (47, 50, (.goto (-45), 3), (2, 0, 0, 0)), (50, 51, (.iload_n 3, 1), (3, 0, 0, 0)), (51, 52, (.ireturn, 1), (0, 0, 0, 0))], [(2, [0, 1, 2, 3])], [], (1, 7), [])
def mc_X6_pastedBegin : mg_C := ([(0, 1, (.iload_n 1, 1), (1, 0, 0, 0)), (1, 2, (.aload_n 0, 1), (0, 0, 0, 0)), (2, 5, (.getfield 105, 3), (7, 32, 0, 0)), (5, 6, (.isub, 1), (0, 0, 0, 0)), (6, 7, (.aload_n 0, 1), (0, 0, 0, 0)), (7, 10, (.getfield 223, 3), (7, 25, 0, 0)), (10, 11, (.irem, 1), (0, 0, 0, 0)), (11, 12, (.istore_n 3, 1), (3, 0, 0, 0)), (12, 13, (.iload_n 2, 1), (2, 0, 0, 0)), (13, 14, (.aload_n 0, 1), (0, 0, 0, 0)), (14, 17, (.getfield 111, 3), (7, 34, 0, 0)), (17, 18, (.isub, 1), (0, 0, 0, 0)), (18, 19, (.aload_n 0, 1), (0, 0, 0, 0)), (19, 22, (.getfield 226, 3), (7, 26, 0, 0)), (22, 23, (.irem, 1), (0, 0, 0, 0)), (23, 25, (.istore 4, 2), (4, 0, 0, 0)), (25, 26, (.iconst 0, 1), (0, 0, 0, 0)), (26, 28, (.istore 5, 2), (5, 0, 0, 0)), (28, 30, (.iload 5, 2), (5, 0, 0, 0)), (30, 32, (.bipush 10, 2), (0, 0, 0, 0)), (32, 33, (.idiv, 1), (0, 0, 0, 0)), (33, 34, (.aload_n 0, 1), (0, 0, 0, 0)), (34, 37, (.getfield 223, 3), (7, 25, 0, 0)), (37, 40, (.if_icmp .ge 37, 3), (74, 0, 0, 0)), (40, 42, (.iload 5, 2), (5, 0, 0, 0)), (42, 44, (.bipush 10, 2), (0, 0, 0, 0)), (44, 45, (.irem, 1), (0, 0, 0, 0)), (45, 46, (.aload_n 0, 1), (0, 0, 0, 0)), (46, 49, (.getfield 226, 3), (7, 26, 0, 0)), (49, 52, (.if_icmp .ge 25, 3), (74, 0, 0, 0)), (52, 53, (.aload_n 0, 1), (0, 0, 0, 0)), (53, 56, (.getfield 53, 3), (7, 28, 1, 0)), (56, 58, (.iload 5, 2), (5, 0, 0, 0)), (58, 59, (.iaload, 1), (8, 0, 0, 0)), (59, 60, (.aload_n 0, 1), (0, 0, 0, 0)), (60, 63, (.getfield 53, 3), (7, 28, 1, 0)), (63, 65, (.bipush 10, 2), (0, 0, 0, 0)), (65, 66, (.iload_n 3, 1), (3, 0, 0, 0)), (66, 67, (.imul, 1), (0, 0, 0, 0)), (67, 69, (.iload 4, 2), (4, 0, 0, 0)), (69, 70, (.iadd, 1), (0, 0, 0, 0)), (70, 71, (.iaload, 1), (8, 0, 0, 0)), (71, 74, (.if_icmp .eq 9, 3), (80, 0, 0, 0)), (74, 77, (.iinc 5 1, 3), (5, 0, 0, 0)), (77, 80, (.goto (-49), 3), (28, 0, 0, 0)), (80, 82, (.bipush 10, 2), (0, 0, 0, 0)), (82, 83, (.iload_n 1, 1), (1, 0, 0, 0)), (83, 84, (.iload_n 3, 1), (3, 0, 0, 0)), (84, 85, (.isub, 1), (0, 0, 0, 0)), (85, 87, (.iload 5, 2), (5, 0, 0, 0)), (87, 89, (.bipush 10, 2), (0, 0, 0, 0)), (89, 90, (.idiv, 1), (0, 0, 0, 0)), (90, 91, (.iadd, 1), (0, 0, 0, 0)), (91, 92, (.imul, 1), (0, 0, 0, 0)), (92, 93, (.iload_n 2, 1), (2, 0, 0, 0)), (93, 94, (.iadd, 1), (0, 0, 0, 0)), (94, 96, (.iload 4, 2), (4, 0, 0, 0)), (96, 97, (.isub, 1), (0, 0, 0, 0)), (97, 99, (.iload 5, 2), (5, 0, 0, 0)), (99, 101, (.bipush 10, 2), (0, 0, 0, 0)), (101, 102, (.irem, 1), (0, 0, 0, 0)), (102, 103, (.iadd, 1), (0, 0, 0, 0)), (103, 104, (.ireturn, 1), (0, 0, 0, 0))], [(28, [0, 1, 2, 3, 4, 5])], [], (1, 7), [])
def mc_X6_isTiedAt : mg_C := ([(0, 1, (.iconst 0, 1), (0, 0, 0, 0)), (1, 2, (.istore_n 2, 1), (2, 0, 0, 0)), (2, 3, (.iconst 0, 1), (0, 0, 0, 0)), (3, 4, (.istore_n 3, 1), (3, 0, 0, 0)), (4, 5, (.iload_n 3, 1), (3, 0, 0, 0)), (5, 6, (.aload_n 0, 1), (0, 0, 0, 0)), (6, 9, (.getfield 13, 3), (7, 2, 0, 0)), (9, 12, (.if_icmp .ge 48, 3), (57, 0, 0, 0)), (12, 13, (.iload_n 1, 1), (1, 0, 0, 0)), (13, 16, (.ifCond .le 44, 3), (57, 0, 0, 0)), (16, 17, (.iload_n 1, 1), (1, 0, 0, 0)), (17, 18, (.aload_n 0, 1), (0, 0, 0, 0)), (18, 21, (.getfield 7, 3), (7, 1, 0, 0)), (21, 24, (.if_icmp .ge 36, 3), (57, 0, 0, 0)), (24, 25, (.iload_n 2, 1), (2, 0, 0, 0)), (25, 28, (.ifCond .ne 20, 3), (45, 0, 0, 0)), (28, 29, (.aload_n 0, 1), (0, 0, 0, 0)), (29, 30, (.iload_n 1, 1), (1, 0, 0, 0)), (30, 31, (.iload_n 3, 1), (3, 0, 0, 0)), (31, 34, (.invokevirtual 81, 3), (128, 2, 0, 7)), (34, 35, (.aload_n 0, 1), (0, 0, 0, 0)), (35, 36, (.iload_n 1, 1), (1, 0, 0, 0)), (36, 37, (.iconst 1, 1), (0, 0, 0, 0)), (37, 38, (.isub, 1), (0, 0, 0, 0)), (38, 39, (.iload_n 3, 1), (3, 0, 0, 0)), (39, 42, (.invokevirtual 81, 3), (128, 2, 0, 7)), (42, 45, (.if_icmp .ne 7, 3), (49, 0, 0, 0)), (45, 46, (.iconst 1, 1), (0, 0, 0, 0)), (46, 49, (.goto 4, 3), (50, 0, 0, 0)), (49, 50, (.iconst 0, 1), (0, 0, 0, 0)), (50, 51, (.istore_n 2, 1), (2, 0, 0, 0)), (51, 54, (.iinc 3 1, 3), (3, 0, 0, 0)), (54, 57, (.goto (-50), 3), (4, 0, 0, 0)), (57, 58, (.iload_n 2, 1), (2, 0, 0, 0)), (58, 59, (.ireturn, 1), (0, 0, 0, 0))], [(4, [0, 1, 2, 3])], [], (2, 7), [])
def mc_X6_setHeader : mg_C := ([(0, 1, (.aload_n 0, 1), (0, 0, 0, 0)), (1, 2, (.iload_n 1, 1), (1, 0, 0, 0)), (2, 3, (.iconst 0, 1), (0, 0, 0, 0)), (3, 4, (.aload_n 0, 1), (0, 0, 0, 0)), (4, 7, (.getfield 7, 3), (7, 1, 0, 0)), (7, 10, (.invokestatic 74, 3), (126, 3, 0, 0)), (10, 13, (.ifCond .ne 7, 3), (17, 0, 0, 0)), (13, 14, (.iconst 1, 1), (0, 0, 0, 0)), (14, 17, (.goto 16, 3), (30, 0, 0, 0)), (17, 18, (.aload_n 0, 1), (0, 0, 0, 0)), (18, 19, (.iload_n 1, 1), (1, 0, 0, 0)), (19, 22, (.invokevirtual 248, 3), (188, 1, 0, 7)), (22, 25, (.ifCond .eq 7, 3), (29, 0, 0, 0)), (25, 26, (.iconst 2, 1), (0, 0, 0, 0)), (26, 29, (.goto 4, 3), (30, 0, 0, 0)), (29, 30, (.iconst 0, 1), (0, 0, 0, 0)), (30, 33, (.invokevirtual 151, 3), (125, 1, 0, 7)), (33, 36, (.ifCond .eq 5, 3), (38, 0, 0, 0)), (36, 37, (.iconst 0, 1), (0, 0, 0, 0)), (37, 38, (.ireturn, 1), (0, 0, 0, 0)), (38, 39, (.aload_n 0, 1), (0, 0, 0, 0)), (39, 42, (.invokevirtual 154, 3), (131, 0, 0, 7)), (42, 43, (.aload_n 0, 1), (0, 0, 0, 0)), (43, 46, (.getfield 99, 3), (7, 3, 0, 0)), (46, 47, (.istore_n 2, 1), (2, 0, 0, 0)), (47, 48, (.aload_n 0, 1), (0, 0, 0, 0)), (48, 49, (.iload_n 1, 1), (1, 0, 0, 0)), (49, 52, (.putfield 99, 3), (7, 3, 0, 0)), (52, 53, (.iload_n 2, 1), (2, 0, 0, 0)), (53, 54, (.ireturn, 1), (0, 0, 0, 0))], [], [], (1, 7), [])
def mc_X6_header : mg_C := ([(0, 1, (.aload_n 0, 1), (0, 0, 0, 0)), (1, 2, (.iconst 0, 1), (0, 0, 0, 0)), (2, 5, (.putfield 71, 3), (7, 0, 0, 0)), (5, 6, (.aload_n 0, 1), (0, 0, 0, 0)), (6, 9, (.getfield 99, 3), (7, 3, 0, 0)), (9, 10, (.ireturn, 1), (0, 0, 0, 0))], [], [], (1, 7), [])
def mc_X6_sort : mg_C := ([(0, 1, (.aload_n 0, 1), (0, 0, 0, 0)), (1, 2, (.iload_n 1, 1), (1, 0, 0, 0)), (2, 3, (.iconst 0, 1), (0, 0, 0, 0)), (3, 4, (.aload_n 0, 1), (0, 0, 0, 0)), (4, 7, (.getfield 13, 3), (7, 2, 0, 0)), (7, 8, (.iconst 1, 1), (0, 0, 0, 0)), (8, 9, (.isub, 1), (0, 0, 0, 0)), (9, 12, (.invokestatic 74, 3), (126, 3, 0, 0)), (12, 15, (.ifCond .ne 7, 3), (19, 0, 0, 0)), (15, 16, (.iconst 1, 1), (0, 0, 0, 0)), (16, 19, (.goto 36, 3), (52, 0, 0, 0)), (19, 20, (.aload_n 0, 1), (0, 0, 0, 0)), (20, 23, (.getfield 99, 3), (7, 3, 0, 0)), (23, 24, (.aload_n 0, 1), (0, 0, 0, 0)), (24, 27, (.getfield 7, 3), (7, 1, 0, 0)), (27, 30, (.if_icmp .ge 24, 3), (51, 0, 0, 0)), (30, 31, (.aload_n 0, 1), (0, 0, 0, 0)), (31, 32, (.aload_n 0, 1), (0, 0, 0, 0)), (32, 35, (.getfield 99, 3), (7, 3, 0, 0)), (35, 36, (.aload_n 0, 1), (0, 0, 0, 0)), (36, 39, (.getfield 7, 3), (7, 1, 0, 0)), (39, 40, (.iconst 1, 1), (0, 0, 0, 0)), (40, 41, (.isub, 1), (0, 0, 0, 0)), (41, 44, (.invokevirtual 166, 3), (150, 2, 0, 7)), (44, 47, (.ifCond .eq 7, 3), (51, 0, 0, 0)), (47, 48, (.iconst 2, 1), (0, 0, 0, 0)), (48, 51, (.goto 4, 3), (52, 0, 0, 0)), (51, 52, (.iconst 0, 1), (0, 0, 0, 0)), (52, 55, (.invokevirtual 151, 3), (125, 1, 0, 7)), (55, 58, (.ifCond .eq 5, 3), (60, 0, 0, 0)), (58, 59, (.iconst 0, 1), (0, 0, 0, 0)), (59, 60, (.ireturn, 1), (0, 0, 0, 0)), (60, 61, (.aload_n 0, 1), (0, 0, 0, 0)), (61, 64, (.invokevirtual 154, 3), (131, 0, 0, 7)), (64, 65, (.iconst 0, 1), (0, 0, 0, 0)), (65, 66, (.istore_n 3, 1), (3, 0, 0, 0)), (66, 67, (.iload_n 3, 1), (3, 0, 0, 0)), (67, 68, (.aload_n 0, 1), (0, 0, 0, 0)), (68, 71, (.getfield 7, 3), (7, 1, 0, 0)), (71, 74, (.if_icmp .ge 16, 3), (87, 0, 0, 0)), (74, 75, (.aload_n 0, 1), (0, 0, 0, 0)), (75, 78, (.getfield 65, 3), (7, 36, 1, 0)), (78, 79, (.iload_n 3, 1), (3, 0, 0, 0)), (79, 80, (.iload_n 3, 1), (3, 0, 0, 0)), (80, 81, (.iastore, 1), (0, 0, 0, 0)), (81, 84, (.iinc 3 1, 3), (3, 0, 0, 0)), (84, 87, (.goto (-18), 3), (66, 0, 0, 0)), (87, 88, (.aload_n 0, 1), (0, 0, 0, 0)), (88, 91, (.getfield 99, 3), (7, 3, 0, 0)), (91, 92, (.istore_n 3, 1), (3, 0, 0, 0)), (92, 93, (.iload_n 3, 1), (3, 0, 0, 0)), (93, 94, (.aload_n 0, 1), (0, 0, 0, 0)), (94, 97, (.getfield 7, 3), (7, 1, 0, 0)), (97, 100, (.if_icmp .ge 125, 3), (222, 0, 0, 0)), (100, 101, (.aload_n 0, 1), (0, 0, 0, 0)), (101, 104, (.getfield 99, 3), (7, 3, 0, 0)), (104, 106, (.istore 4, 2), (4, 0, 0, 0)), (106, 108, (.iload 4, 2), (4, 0, 0, 0)), (108, 109, (.aload_n 0, 1), (0, 0, 0, 0)), (109, 112, (.getfield 7, 3), (7, 1, 0, 0)), (112, 113, (.iconst 1, 1), (0, 0, 0, 0)), (113, 114, (.isub, 1), (0, 0, 0, 0)), (114, 117, (.if_icmp .ge 102, 3), (216, 0, 0, 0)), (117, 118, (.aload_n 0, 1), (0, 0, 0, 0)), (118, 121, (.getfield 20, 3), (7, 6, 1, 0)), (121, 122, (.aload_n 0, 1), (0, 0, 0, 0)), (122, 124, (.iload 4, 2), (4, 0, 0, 0)), (124, 125, (.iload_n 1, 1), (1, 0, 0, 0)), (125, 128, (.invokevirtual 81, 3), (128, 2, 0, 7)), (128, 129, (.iaload, 1), (8, 0, 0, 0)), (129, 131, (.istore 5, 2), (5, 0, 0, 0)), (131, 132, (.aload_n 0, 1), (0, 0, 0, 0)), (132, 135, (.getfield 20, 3), (7, 6, 1, 0)), (135, 136, (.aload_n 0, 1), (0, 0, 0, 0)), (136, 138, (.iload 4, 2), (4, 0, 0, 0)), (138, 139, (.iconst 1, 1), (0, 0, 0, 0)), (139, 140, (.iadd, 1), (0, 0, 0, 0)), (140, 141, (.iload_n 1, 1), (1, 0, 0, 0)), (141, 144, (.invokevirtual 81, 3), (128, 2, 0, 7)), (144, 145, (.iaload, 1), (8, 0, 0, 0)), (145, 147, (.istore 6, 2), (6, 0, 0, 0)), (147, 148, (.iload_n 2, 1), (2, 0, 0, 0)), (148, 151, (.ifCond .eq 13, 3), (161, 0, 0, 0)), (151, 153, (.iload 6, 2), (6, 0, 0, 0)), (153, 155, (.iload 5, 2), (5, 0, 0, 0)), (155, 158, (.if_icmp .ge 55, 3), (210, 0, 0, 0)), (158, 161, (.goto 10, 3), (168, 0, 0, 0)), (161, 163, (.iload 6, 2), (6, 0, 0, 0)), (163, 165, (.iload 5, 2), (5, 0, 0, 0)), (165, 168, (.if_icmp .le 45, 3), (210, 0, 0, 0)), (168, 169, (.aload_n 0, 1), (0, 0, 0, 0)), (169, 171, (.iload 4, 2), (4, 0, 0, 0)), (171, 174, (.invokevirtual 169, 3), (151, 1, 0, 7)), (174, 175, (.aload_n 0, 1), (0, 0, 0, 0)), (175, 178, (.getfield 65, 3), (7, 36, 1, 0)), (178, 180, (.iload 4, 2), (4, 0, 0, 0)), (180, 181, (.iaload, 1), (8, 0, 0, 0)), (181, 183, (.istore 7, 2), (7, 0, 0, 0)), (183, 184, (.aload_n 0, 1), (0, 0, 0, 0)), (184, 187, (.getfield 65, 3), (7, 36, 1, 0)), (187, 189, (.iload 4, 2), (4, 0, 0, 0)), (189, 190, (.aload_n 0, 1), (0, 0, 0, 0)), (190, 193, (.getfield 65, 3), (7, 36, 1, 0)), (193, 195, (.iload 4, 2), (4, 0, 0, 0)), (195, 196, (.iconst 1, 1), (0, 0, 0, 0)), (196, 197, (.iadd, 1), (0, 0, 0, 0)), (197, 198, (.iaload, 1), (8, 0, 0, 0)), (198, 199, (.iastore, 1), (0, 0, 0, 0)), (199, 200, (.aload_n 0, 1), (0, 0, 0, 0)), (200, 203, (.getfield 65, 3), (7, 36, 1, 0)), (203, 205, (.iload 4, 2), (4, 0, 0, 0)), (205, 206, (.iconst 1, 1), (0, 0, 0, 0)), (206, 207, (.iadd, 1), (0, 0, 0, 0)), (207, 209, (.iload 7, 2), (7, 0, 0, 0)), (209, 210, (.iastore, 1), (0, 0, 0, 0)), (210, 213, (.iinc 4 1, 3), (4, 0, 0, 0)), (213, 216, (.goto (-107), 3), (106, 0, 0, 0)), (216, 219, (.iinc 3 1, 3), (3, 0, 0, 0)), (219, 222, (.goto (-127), 3), (92, 0, 0, 0)), (222, 223, (.iconst 0, 1), (0, 0, 0, 0)), (223, 224, (.istore_n 3, 1), (3, 0, 0, 0)), (224, 225, (.iconst 0, 1), (0, 0, 0, 0)), (225, 227, (.istore 4, 2), (4, 0, 0, 0)), (227, 229, (.iload 4, 2), (4, 0, 0, 0)), (229, 230, (.aload_n 0, 1), (0, 0, 0, 0)), (230, 233, (.getfield 7, 3), (7, 1, 0, 0)), (233, 236, (.if_icmp .ge 29, 3), (262, 0, 0, 0)), (236, 237, (.iload_n 3, 1), (3, 0, 0, 0)), (237, 238, (.aload_n 0, 1), (0, 0, 0, 0)), (238, 241, (.getfield 65, 3), (7, 36, 1, 0)), (241, 243, (.iload 4, 2), (4, 0, 0, 0)), (243, 244, (.iaload, 1), (8, 0, 0, 0)), (244, 246, (.iload 4, 2), (4, 0, 0, 0)), (246, 249, (.if_icmp .eq 7, 3), (253, 0, 0, 0)), (249, 250, (.iconst 1, 1), (0, 0, 0, 0)), (250, 253, (.goto 4, 3), (254, 0, 0, 0)), (253, 254, (.iconst 0, 1), (0, 0, 0, 0)), (254, 255, (.iadd, 1), (0, 0, 0, 0)), (255, 256, (.istore_n 3, 1), (3, 0, 0, 0)), (256, 259, (.iinc 4 1, 3), (4, 0, 0, 0)), (259, 262, (.goto (-32), 3), (227, 0, 0, 0)), (262, 263, (.aload_n 0, 1), (0, 0, 0, 0)), (263, 266, (.invokevirtual 68, 3), (129, 0, 0, 7)), (266, 267, (.aload_n 0, 1), (0, 0, 0, 0)), (267, 270, (.invokevirtual 163, 3), (138, 0, 0, 7)), (270, 271, (.iload_n 3, 1), (3, 0, 0, 0)), (271, 272, (.ireturn, 1), (0, 0, 0, 0))], [(66, [0, 1, 2, 3]), (92, [0, 1, 2, 3]), (106, [0, 1, 2, 3, 4]), (227, [0, 3, 4])], [], (1, 7), [])
def mc_X6_isCol : mg_C := ([(0, 1, (.iload_n 1, 1), (1, 0, 0, 0)), (1, 2, (.iconst 0, 1), (0, 0, 0, 0)), (2, 3, (.aload_n 0, 1), (0, 0, 0, 0)), (3, 6, (.getfield 13, 3), (7, 2, 0, 0)), (6, 7, (.iconst 1, 1), (0, 0, 0, 0)), (7, 8, (.isub, 1), (0, 0, 0, 0)), (8, 11, (.invokestatic 74, 3), (126, 3, 0, 0)), (11, 12, (.ireturn, 1), (0, 0, 0, 0))], [], [], (2, 7), [])
def mc_X6_widthOf : mg_C := ([(0, 1, (.aload_n 0, 1), (0, 0, 0, 0)), (1, 2, (.aload_n 0, 1), (0, 0, 0, 0)), (2, 3, (.iload_n 1, 1), (1, 0, 0, 0)), (3, 6, (.invokevirtual 251, 3), (192, 1, 0, 7)), (6, 9, (.ifCond .eq 7, 3), (13, 0, 0, 0)), (9, 10, (.iconst 0, 1), (0, 0, 0, 0)), (10, 13, (.goto 4, 3), (14, 0, 0, 0)), (13, 14, (.iconst 1, 1), (0, 0, 0, 0)), (14, 17, (.invokevirtual 151, 3), (125, 1, 0, 7)), (17, 20, (.ifCond .eq 7, 3), (24, 0, 0, 0)), (20, 21, (.iconst 0, 1), (0, 0, 0, 0)), (21, 24, (.goto 9, 3), (30, 0, 0, 0)), (24, 25, (.aload_n 0, 1), (0, 0, 0, 0)), (25, 28, (.getfield 26, 3), (7, 8, 1, 0)), (28, 29, (.iload_n 1, 1), (1, 0, 0, 0)), (29, 30, (.iaload, 1), (8, 0, 0, 0)), (30, 31, (.ireturn, 1), (0, 0, 0, 0))], [], [], (1, 7), [])
def mc_X6_heightOf : mg_C := ([(0, 1, (.aload_n 0, 1), (0, 0, 0, 0)), (1, 2, (.iload_n 1, 1), (1, 0, 0, 0)), (2, 3, (.iconst 0, 1), (0, 0, 0, 0)), (3, 4, (.aload_n 0, 1), (0, 0, 0, 0)), (4, 7, (.getfield 7, 3), (7, 1, 0, 0)), (7, 8, (.iconst 1, 1), (0, 0, 0, 0)), (8, 9, (.isub, 1), (0, 0, 0, 0)), (9, 12, (.invokestatic 74, 3), (126, 3, 0, 0)), (12, 15, (.ifCond .eq 7, 3), (19, 0, 0, 0)), (15, 16, (.iconst 0, 1), (0, 0, 0, 0)), (16, 19, (.goto 4, 3), (20, 0, 0, 0)), (19, 20, (.iconst 1, 1), (0, 0, 0, 0)), (20, 23, (.invokevirtual 151, 3), (125, 1, 0, 7)), (23, 26, (.ifCond .eq 7, 3), (30, 0, 0, 0)), (26, 27, (.iconst 0, 1), (0, 0, 0, 0)), (27, 30, (.goto 9, 3), (36, 0, 0, 0)), (30, 31, (.aload_n 0, 1), (0, 0, 0, 0)), (31, 34, (.getfield 29, 3), (7, 9, 1, 0)), (34, 35, (.iload_n 1, 1), (1, 0, 0, 0)), (35, 36, (.iaload, 1), (8, 0, 0, 0)), (36, 37, (.ireturn, 1), (0, 0, 0, 0))], [], [], (1, 7), [])
def mc_X6_setWidth : mg_C := ([(0, 1, (.aload_n 0, 1), (0, 0, 0, 0)), (1, 2, (.aload_n 0, 1), (0, 0, 0, 0)), (2, 3, (.iload_n 1, 1), (1, 0, 0, 0)), (3, 6, (.invokevirtual 251, 3), (192, 1, 0, 7)), (6, 9, (.ifCond .ne 7, 3), (13, 0, 0, 0)), (9, 10, (.iconst 1, 1), (0, 0, 0, 0)), (10, 13, (.goto 20, 3), (30, 0, 0, 0)), (13, 14, (.iload_n 2, 1), (2, 0, 0, 0)), (14, 16, (.bipush 10, 2), (0, 0, 0, 0)), (16, 19, (.sipush 200, 3), (0, 0, 0, 0)), (19, 22, (.invokestatic 74, 3), (126, 3, 0, 0)), (22, 25, (.ifCond .eq 7, 3), (29, 0, 0, 0)), (25, 26, (.iconst 0, 1), (0, 0, 0, 0)), (26, 29, (.goto 4, 3), (30, 0, 0, 0)), (29, 30, (.iconst 2, 1), (0, 0, 0, 0)), (30, 33, (.invokevirtual 151, 3), (125, 1, 0, 7)), (33, 36, (.ifCond .eq 5, 3), (38, 0, 0, 0)), (36, 37, (.iconst 0, 1), (0, 0, 0, 0)), (37, 38, (.ireturn, 1), (0, 0, 0, 0)), (38, 39, (.aload_n 0, 1), (0, 0, 0, 0)), (39, 42, (.invokevirtual 154, 3), (131, 0, 0, 7)), (42, 43, (.aload_n 0, 1), (0, 0, 0, 0)), (43, 46, (.getfield 26, 3), (7, 8, 1, 0)), (46, 47, (.iload_n 1, 1), (1, 0, 0, 0)), (47, 48, (.iaload, 1), (8, 0, 0, 0)), (48, 49, (.istore_n 3, 1), (3, 0, 0, 0)), (49, 50, (.aload_n 0, 1), (0, 0, 0, 0)), (50, 53, (.getfield 26, 3), (7, 8, 1, 0)), (53, 54, (.iload_n 1, 1), (1, 0, 0, 0)), (54, 55, (.iload_n 2, 1), (2, 0, 0, 0)), (55, 56, (.iastore, 1), (0, 0, 0, 0)), (56, 57, (.iload_n 3, 1), (3, 0, 0, 0)), (57, 58, (.ireturn, 1), (0, 0, 0, 0))], [], [], (1, 7), [])
def mc_X6_setHeight : mg_C := ([(0, 1, (.aload_n 0, 1), (0, 0, 0, 0)), (1, 2, (.iload_n 1, 1), (1, 0, 0, 0)), (2, 3, (.iconst 0, 1), (0, 0, 0, 0)), (3, 4, (.aload_n 0, 1), (0, 0, 0, 0)), (4, 7, (.getfield 7, 3), (7, 1, 0, 0)), (7, 8, (.iconst 1, 1), (0, 0, 0, 0)), (8, 9, (.isub, 1), (0, 0, 0, 0)), (9, 12, (.invokestatic 74, 3), (126, 3, 0, 0)), (12, 15, (.ifCond .ne 7, 3), (19, 0, 0, 0)), (15, 16, (.iconst 1, 1), (0, 0, 0, 0)), (16, 19, (.goto 18, 3), (34, 0, 0, 0)), (19, 20, (.iload_n 2, 1), (2, 0, 0, 0)), (20, 21, (.iconst 5, 1), (0, 0, 0, 0)), (21, 23, (.bipush 100, 2), (0, 0, 0, 0)), (23, 26, (.invokestatic 74, 3), (126, 3, 0, 0)), (26, 29, (.ifCond .eq 7, 3), (33, 0, 0, 0)), (29, 30, (.iconst 0, 1), (0, 0, 0, 0)), (30, 33, (.goto 4, 3), (34, 0, 0, 0)), (33, 34, (.iconst 2, 1), (0, 0, 0, 0)), (34, 37, (.invokevirtual 151, 3), (125, 1, 0, 7)), (37, 40, (.ifCond .eq 5, 3), (42, 0, 0, 0)), (40, 41, (.iconst 0, 1), (0, 0, 0, 0)), (41, 42, (.ireturn, 1), (0, 0, 0, 0)), (42, 43, (.aload_n 0, 1), (0, 0, 0, 0)), (43, 46, (.invokevirtual 154, 3), (131, 0, 0, 7)), (46, 47, (.aload_n 0, 1), (0, 0, 0, 0)), (47, 50, (.getfield 29, 3), (7, 9, 1, 0)), (50, 51, (.iload_n 1, 1), (1, 0, 0, 0)), (51, 52, (.iaload, 1), (8, 0, 0, 0)), (52, 53, (.istore_n 3, 1), (3, 0, 0, 0)), (53, 54, (.aload_n 0, 1), (0, 0, 0, 0)), (54, 57, (.getfield 29, 3), (7, 9, 1, 0)), (57, 58, (.iload_n 1, 1), (1, 0, 0, 0)), (58, 59, (.iload_n 2, 1), (2, 0, 0, 0)), (59, 60, (.iastore, 1), (0, 0, 0, 0)), (60, 61, (.iload_n 3, 1), (3, 0, 0, 0)), (61, 62, (.ireturn, 1), (0, 0, 0, 0))], [], [], (1, 7), [])
def mc_X6_drag : mg_C := ([(0, 1, (.aload_n 0, 1), (0, 0, 0, 0)), (1, 2, (.iload_n 1, 1), (1, 0, 0, 0)), (2, 3, (.iconst 0, 1), (0, 0, 0, 0)), (3, 4, (.aload_n 0, 1), (0, 0, 0, 0)), (4, 7, (.getfield 13, 3), (7, 2, 0, 0)), (7, 8, (.iconst 2, 1), (0, 0, 0, 0)), (8, 9, (.isub, 1), (0, 0, 0, 0)), (9, 12, (.invokestatic 74, 3), (126, 3, 0, 0)), (12, 15, (.ifCond .eq 7, 3), (19, 0, 0, 0)), (15, 16, (.iconst 0, 1), (0, 0, 0, 0)), (16, 19, (.goto 4, 3), (20, 0, 0, 0)), (19, 20, (.iconst 1, 1), (0, 0, 0, 0)), (20, 23, (.invokevirtual 151, 3), (125, 1, 0, 7)), (23, 26, (.ifCond .eq 5, 3), (28, 0, 0, 0)), (26, 27, (.iconst 0, 1), (0, 0, 0, 0)), (27, 28, (.ireturn, 1), (0, 0, 0, 0)), (28, 29, (.iload_n 2, 1), (2, 0, 0, 0)), (29, 32, (.sipush (-200), 3), (0, 0, 0, 0)), (32, 35, (.sipush 200, 3), (0, 0, 0, 0)), (35, 38, (.invokestatic 74, 3), (126, 3, 0, 0)), (38, 41, (.ifCond .eq 47, 3), (85, 0, 0, 0)), (41, 42, (.aload_n 0, 1), (0, 0, 0, 0)), (42, 45, (.getfield 26, 3), (7, 8, 1, 0)), (45, 46, (.iload_n 1, 1), (1, 0, 0, 0)), (46, 47, (.iaload, 1), (8, 0, 0, 0)), (47, 48, (.iload_n 2, 1), (2, 0, 0, 0)), (48, 49, (.iadd, 1), (0, 0, 0, 0)), (49, 51, (.bipush 10, 2), (0, 0, 0, 0)), (51, 54, (.sipush 200, 3), (0, 0, 0, 0)), (54, 57, (.invokestatic 74, 3), (126, 3, 0, 0)), (57, 60, (.ifCond .eq 28, 3), (85, 0, 0, 0)), (60, 61, (.aload_n 0, 1), (0, 0, 0, 0)), (61, 64, (.getfield 26, 3), (7, 8, 1, 0)), (64, 65, (.iload_n 1, 1), (1, 0, 0, 0)), (65, 66, (.iconst 1, 1), (0, 0, 0, 0)), (66, 67, (.iadd, 1), (0, 0, 0, 0)), (67, 68, (.iaload, 1), (8, 0, 0, 0)), (68, 69, (.iload_n 2, 1), (2, 0, 0, 0)), (69, 70, (.isub, 1), (0, 0, 0, 0)), (70, 72, (.bipush 10, 2), (0, 0, 0, 0)), (72, 75, (.sipush 200, 3), (0, 0, 0, 0)), (75, 78, (.invokestatic 74, 3), (126, 3, 0, 0)), (78, 81, (.ifCond .eq 7, 3), (85, 0, 0, 0)), (81, 82, (.iconst 1, 1), (0, 0, 0, 0)), (82, 85, (.goto 4, 3), (86, 0, 0, 0)), (85, 86, (.iconst 0, 1), (0, 0, 0, 0)), (86, 87, (.istore_n 3, 1), (3, 0, 0, 0)), (87, 88, (.aload_n 0, 1), (0, 0, 0, 0)), (88, 89, (.iload_n 3, 1), (3, 0, 0, 0)), (89, 92, (.ifCond .eq 7, 3), (96, 0, 0, 0)), (92, 93, (.iconst 0, 1), (0, 0, 0, 0)), (93, 96, (.goto 4, 3), (97, 0, 0, 0)), (96, 97, (.iconst 2, 1), (0, 0, 0, 0)), (97, 100, (.invokevirtual 151, 3), (125, 1, 0, 7)), (100, 103, (.ifCond .eq 5, 3), (105, 0, 0, 0)), (103, 104, (.iconst 0, 1), (0, 0, 0, 0)), (104, 105, (.ireturn, 1), (0, 0, 0, 0)), (105, 106, (.aload_n 0, 1), (0, 0, 0, 0)), (106, 109, (.invokevirtual 154, 3), (131, 0, 0, 7)), (109, 110, (.aload_n 0, 1), (0, 0, 0, 0)), (110, 113, (.getfield 26, 3), (7, 8, 1, 0)), (113, 114, (.iload_n 1, 1), (1, 0, 0, 0)), (114, 115, (.dup2, 1), (0, 0, 0, 0)), (115, 116, (.iaload, 1), (8, 0, 0, 0)), (116, 117, (.iload_n 2, 1), (2, 0, 0, 0)), (117, 118, (.iadd, 1), (0, 0, 0, 0)), (118, 119, (.iastore, 1), (0, 0, 0, 0)), (119, 120, (.aload_n 0, 1), (0, 0, 0, 0)), (120, 123, (.getfield 26, 3), (7, 8, 1, 0)), (123, 124, (.iload_n 1, 1), (1, 0, 0, 0)), (124, 125, (.iconst 1, 1), (0, 0, 0, 0)), (125, 126, (.iadd, 1), (0, 0, 0, 0)), (126, 127, (.dup2, 1), (0, 0, 0, 0)), (127, 128, (.iaload, 1), (8, 0, 0, 0)), (128, 129, (.iload_n 2, 1), (2, 0, 0, 0)), (129, 130, (.isub, 1), (0, 0, 0, 0)), (130, 131, (.iastore, 1), (0, 0, 0, 0)), (131, 132, (.aload_n 0, 1), (0, 0, 0, 0)), (132, 135, (.getfield 26, 3), (7, 8, 1, 0)), (135, 136, (.iload_n 1, 1), (1, 0, 0, 0)), (136, 137, (.iaload, 1), (8, 0, 0, 0)), (137, 138, (.ireturn, 1), (0, 0, 0, 0))], [], [], (1, 7), [])
def mc_X6_even : mg_C := ([(0, 1, (.aload_n 0, 1), (0, 0, 0, 0)), (1, 2, (.aload_n 0, 1), (0, 0, 0, 0)), (2, 3, (.iload_n 1, 1), (1, 0, 0, 0)), (3, 6, (.invokevirtual 251, 3), (192, 1, 0, 7)), (6, 9, (.ifCond .eq 11, 3), (17, 0, 0, 0)), (9, 10, (.aload_n 0, 1), (0, 0, 0, 0)), (10, 11, (.iload_n 2, 1), (2, 0, 0, 0)), (11, 14, (.invokevirtual 251, 3), (192, 1, 0, 7)), (14, 17, (.ifCond .ne 7, 3), (21, 0, 0, 0)), (17, 18, (.iconst 1, 1), (0, 0, 0, 0)), (18, 21, (.goto 13, 3), (31, 0, 0, 0)), (21, 22, (.iload_n 2, 1), (2, 0, 0, 0)), (22, 23, (.iload_n 1, 1), (1, 0, 0, 0)), (23, 26, (.if_icmp .gt 7, 3), (30, 0, 0, 0)), (26, 27, (.iconst 2, 1), (0, 0, 0, 0)), (27, 30, (.goto 4, 3), (31, 0, 0, 0)), (30, 31, (.iconst 0, 1), (0, 0, 0, 0)), (31, 34, (.invokevirtual 151, 3), (125, 1, 0, 7)), (34, 37, (.ifCond .eq 5, 3), (39, 0, 0, 0)), (37, 38, (.iconst 0, 1), (0, 0, 0, 0)), (38, 39, (.ireturn, 1), (0, 0, 0, 0)), (39, 40, (.aload_n 0, 1), (0, 0, 0, 0)), (40, 43, (.invokevirtual 154, 3), (131, 0, 0, 7)), (43, 44, (.iload_n 2, 1), (2, 0, 0, 0)), (44, 45, (.iload_n 1, 1), (1, 0, 0, 0)), (45, 46, (.isub, 1), (0, 0, 0, 0)), (46, 47, (.iconst 1, 1), (0, 0, 0, 0)), (47, 48, (.iadd, 1), (0, 0, 0, 0)), (48, 49, (.istore_n 3, 1), (3, 0, 0, 0)), (49, 50, (.iconst 0, 1), (0, 0, 0, 0)), (50, 52, (.istore 4, 2), (4, 0, 0, 0)), (52, 53, (.iload_n 1, 1), (1, 0, 0, 0)), (53, 55, (.istore 5, 2), (5, 0, 0, 0)), (55, 57, (.iload 5, 2), (5, 0, 0, 0)), (57, 58, (.iload_n 2, 1), (2, 0, 0, 0)), (58, 61, (.if_icmp .gt 21, 3), (79, 0, 0, 0)), (61, 63, (.iload 4, 2), (4, 0, 0, 0)), (63, 64, (.aload_n 0, 1), (0, 0, 0, 0)), (64, 67, (.getfield 26, 3), (7, 8, 1, 0)), (67, 69, (.iload 5, 2), (5, 0, 0, 0)), (69, 70, (.iaload, 1), (8, 0, 0, 0)), (70, 71, (.iadd, 1), (0, 0, 0, 0)), (71, 73, (.istore 4, 2), (4, 0, 0, 0)), (73, 76, (.iinc 5 1, 3), (5, 0, 0, 0)), (76, 79, (.goto (-21), 3), (55, 0, 0, 0)), (79, 80, (.iload_n 1, 1), (1, 0, 0, 0)), (80, 82, (.istore 5, 2), (5, 0, 0, 0)), (82, 84, (.iload 5, 2), (5, 0, 0, 0)), (84, 85, (.iload_n 2, 1), (2, 0, 0, 0)), (85, 88, (.if_icmp .gt 37, 3), (122, 0, 0, 0)), (88, 89, (.aload_n 0, 1), (0, 0, 0, 0)), (89, 92, (.getfield 26, 3), (7, 8, 1, 0)), (92, 94, (.iload 5, 2), (5, 0, 0, 0)), (94, 96, (.iload 4, 2), (4, 0, 0, 0)), (96, 97, (.iload_n 3, 1), (3, 0, 0, 0)), (97, 98, (.idiv, 1), (0, 0, 0, 0)), (98, 100, (.iload 5, 2), (5, 0, 0, 0)), (100, 101, (.iload_n 1, 1), (1, 0, 0, 0)), (101, 102, (.isub, 1), (0, 0, 0, 0)), (102, 104, (.iload 4, 2), (4, 0, 0, 0)), (104, 105, (.iload_n 3, 1), (3, 0, 0, 0)), (105, 106, (.irem, 1), (0, 0, 0, 0)), (106, 109, (.if_icmp .ge 7, 3), (113, 0, 0, 0)), (109, 110, (.iconst 1, 1), (0, 0, 0, 0)), (110, 113, (.goto 4, 3), (114, 0, 0, 0)), (113, 114, (.iconst 0, 1), (0, 0, 0, 0)), (114, 115, (.iadd, 1), (0, 0, 0, 0)), (115, 116, (.iastore, 1), (0, 0, 0, 0)), (116, 119, (.iinc 5 1, 3), (5, 0, 0, 0)), (119, 122, (.goto (-37), 3), (82, 0, 0, 0)), (122, 123, (.aload_n 0, 1), (0, 0, 0, 0)), (123, 126, (.getfield 26, 3), (7, 8, 1, 0)), (126, 127, (.iload_n 1, 1), (1, 0, 0, 0)), (127, 128, (.iaload, 1), (8, 0, 0, 0)), (128, 129, (.ireturn, 1), (0, 0, 0, 0))], [(55, [0, 1, 2, 3, 4, 5]), (82, [0, 1, 2, 3, 4, 5])], [], (1, 7), [])
def mc_X6_sizeOf : mg_C := ([(0, 1, (.aload_n 0, 1), (0, 0, 0, 0)), (1, 2, (.iload_n 1, 1), (1, 0, 0, 0)), (2, 3, (.iload_n 2, 1), (2, 0, 0, 0)), (3, 6, (.invokevirtual 182, 3), (153, 2, 0, 7)), (6, 9, (.ifCond .eq 5, 3), (11, 0, 0, 0)), (9, 10, (.iconst 0, 1), (0, 0, 0, 0)), (10, 11, (.ireturn, 1), (0, 0, 0, 0)), (11, 12, (.aload_n 0, 1), (0, 0, 0, 0)), (12, 13, (.iload_n 1, 1), (1, 0, 0, 0)), (13, 14, (.iload_n 2, 1), (2, 0, 0, 0)), (14, 17, (.invokevirtual 81, 3), (128, 2, 0, 7)), (17, 18, (.istore_n 3, 1), (3, 0, 0, 0)), (18, 19, (.iconst 0, 1), (0, 0, 0, 0)), (19, 21, (.istore 4, 2), (4, 0, 0, 0)), (21, 22, (.iconst 0, 1), (0, 0, 0, 0)), (22, 24, (.istore 5, 2), (5, 0, 0, 0)), (24, 25, (.iconst 0, 1), (0, 0, 0, 0)), (25, 27, (.istore 6, 2), (6, 0, 0, 0)), (27, 29, (.iload 6, 2), (6, 0, 0, 0)), (29, 30, (.aload_n 0, 1), (0, 0, 0, 0)), (30, 31, (.iload_n 3, 1), (3, 0, 0, 0)), (31, 34, (.invokevirtual 188, 3), (157, 1, 0, 7)), (34, 37, (.if_icmp .ge 27, 3), (61, 0, 0, 0)), (37, 39, (.iload 4, 2), (4, 0, 0, 0)), (39, 40, (.aload_n 0, 1), (0, 0, 0, 0)), (40, 43, (.getfield 26, 3), (7, 8, 1, 0)), (43, 44, (.aload_n 0, 1), (0, 0, 0, 0)), (44, 45, (.iload_n 3, 1), (3, 0, 0, 0)), (45, 48, (.invokevirtual 175, 3), (155, 1, 0, 7)), (48, 50, (.iload 6, 2), (6, 0, 0, 0)), (50, 51, (.iadd, 1), (0, 0, 0, 0)), (51, 52, (.iaload, 1), (8, 0, 0, 0)), (52, 53, (.iadd, 1), (0, 0, 0, 0)), (53, 55, (.istore 4, 2), (4, 0, 0, 0)), (55, 58, (.iinc 6 1, 3), (6, 0, 0, 0)), (58, 61, (.goto (-31), 3), (27, 0, 0, 0)), (61, 62, (.iconst 0, 1), (0, 0, 0, 0)), (62, 64, (.istore 6, 2), (6, 0, 0, 0)), (64, 66, (.iload 6, 2), (6, 0, 0, 0)), (66, 67, (.aload_n 0, 1), (0, 0, 0, 0)), (67, 68, (.iload_n 3, 1), (3, 0, 0, 0)), (68, 71, (.invokevirtual 185, 3), (156, 1, 0, 7)), (71, 74, (.if_icmp .ge 27, 3), (98, 0, 0, 0)), (74, 76, (.iload 5, 2), (5, 0, 0, 0)), (76, 77, (.aload_n 0, 1), (0, 0, 0, 0)), (77, 80, (.getfield 29, 3), (7, 9, 1, 0)), (80, 81, (.aload_n 0, 1), (0, 0, 0, 0)), (81, 82, (.iload_n 3, 1), (3, 0, 0, 0)), (82, 85, (.invokevirtual 179, 3), (154, 1, 0, 7)), (85, 87, (.iload 6, 2), (6, 0, 0, 0)), (87, 88, (.iadd, 1), (0, 0, 0, 0)), (88, 89, (.iaload, 1), (8, 0, 0, 0)), (89, 90, (.iadd, 1), (0, 0, 0, 0)), (90, 92, (.istore 5, 2), (5, 0, 0, 0)), (92, 95, (.iinc 6 1, 3), (6, 0, 0, 0)), (95, 98, (.goto (-31), 3), (64, 0, 0, 0)), (98, 100, (.iload 4, 2), (4, 0, 0, 0)), (100, 102, (.iload 5, 2), (5, 0, 0, 0)), (102, 103, (.imul, 1), (0, 0, 0, 0)), (103, 104, (.ireturn, 1), (0, 0, 0, 0))], [(27, [0, 3, 4, 5, 6]), (64, [0, 3, 4, 5, 6])], [], (1, 7), [])
def mc_X6_cellAt : mg_C := ([(0, 1, (.iconst (-1), 1), (0, 0, 0, 0)), (1, 2, (.istore_n 3, 1), (3, 0, 0, 0)), (2, 3, (.iconst (-1), 1), (0, 0, 0, 0)), (3, 5, (.istore 4, 2), (4, 0, 0, 0)), (5, 6, (.iconst 0, 1), (0, 0, 0, 0)), (6, 8, (.istore 5, 2), (5, 0, 0, 0)), (8, 9, (.iconst 0, 1), (0, 0, 0, 0)), (9, 11, (.istore 6, 2), (6, 0, 0, 0)), (11, 13, (.iload 6, 2), (6, 0, 0, 0)), (13, 14, (.aload_n 0, 1), (0, 0, 0, 0)), (14, 17, (.getfield 13, 3), (7, 2, 0, 0)), (17, 20, (.if_icmp .ge 48, 3), (65, 0, 0, 0)), (20, 21, (.iload_n 1, 1), (1, 0, 0, 0)), (21, 23, (.iload 5, 2), (5, 0, 0, 0)), (23, 26, (.if_icmp .lt 22, 3), (45, 0, 0, 0)), (26, 27, (.iload_n 1, 1), (1, 0, 0, 0)), (27, 29, (.iload 5, 2), (5, 0, 0, 0)), (29, 30, (.aload_n 0, 1), (0, 0, 0, 0)), (30, 33, (.getfield 26, 3), (7, 8, 1, 0)), (33, 35, (.iload 6, 2), (6, 0, 0, 0)), (35, 36, (.iaload, 1), (8, 0, 0, 0)), (36, 37, (.iadd, 1), (0, 0, 0, 0)), (37, 40, (.if_icmp .ge 8, 3), (45, 0, 0, 0)), (40, 42, (.iload 6, 2), (6, 0, 0, 0)), (42, 45, (.goto 4, 3), (46, 0, 0, 0)), (45, 46, (.iload_n 3, 1), (3, 0, 0, 0)), (46, 47, (.istore_n 3, 1), (3, 0, 0, 0)), (47, 49, (.iload 5, 2), (5, 0, 0, 0)), (49, 50, (.aload_n 0, 1), (0, 0, 0, 0)), (50, 53, (.getfield 26, 3), (7, 8, 1, 0)), (53, 55, (.iload 6, 2), (6, 0, 0, 0)), (55, 56, (.iaload, 1), (8, 0, 0, 0)), (56, 57, (.iadd, 1), (0, 0, 0, 0)), (57, 59, (.istore 5, 2), (5, 0, 0, 0)), (59, 62, (.iinc 6 1, 3), (6, 0, 0, 0)), (62, 65, (.goto (-51), 3), (11, 0, 0, 0)), (65, 66, (.iconst 0, 1), (0, 0, 0, 0)), (66, 68, (.istore 5, 2), (5, 0, 0, 0)), (68, 69, (.iconst 0, 1), (0, 0, 0, 0)), (69, 71, (.istore 6, 2), (6, 0, 0, 0)), (71, 73, (.iload 6, 2), (6, 0, 0, 0)), (73, 74, (.aload_n 0, 1), (0, 0, 0, 0)), (74, 77, (.getfield 7, 3), (7, 1, 0, 0)), (77, 80, (.if_icmp .ge 50, 3), (127, 0, 0, 0)), (80, 81, (.iload_n 2, 1), (2, 0, 0, 0)), (81, 83, (.iload 5, 2), (5, 0, 0, 0)), (83, 86, (.if_icmp .lt 22, 3), (105, 0, 0, 0)), (86, 87, (.iload_n 2, 1), (2, 0, 0, 0)), (87, 89, (.iload 5, 2), (5, 0, 0, 0)), (89, 90, (.aload_n 0, 1), (0, 0, 0, 0)), (90, 93, (.getfield 29, 3), (7, 9, 1, 0)), (93, 95, (.iload 6, 2), (6, 0, 0, 0)), (95, 96, (.iaload, 1), (8, 0, 0, 0)), (96, 97, (.iadd, 1), (0, 0, 0, 0)), (97, 100, (.if_icmp .ge 8, 3), (105, 0, 0, 0)), (100, 102, (.iload 6, 2), (6, 0, 0, 0)), (102, 105, (.goto 5, 3), (107, 0, 0, 0)), (105, 107, (.iload 4, 2), (4, 0, 0, 0)), (107, 109, (.istore 4, 2), (4, 0, 0, 0)), (109, 111, (.iload 5, 2), (5, 0, 0, 0)), (111, 112, (.aload_n 0, 1), (0, 0, 0, 0)), (112, 115, (.getfield 29, 3), (7, 9, 1, 0)), (115, 117, (.iload 6, 2), (6, 0, 0, 0)), (117, 118, (.iaload, 1), (8, 0, 0, 0)), (118, 119, (.iadd, 1), (0, 0, 0, 0)), (119, 121, (.istore 5, 2), (5, 0, 0, 0)), (121, 124, (.iinc 6 1, 3), (6, 0, 0, 0)), (124, 127, (.goto (-53), 3), (71, 0, 0, 0)), (127, 128, (.aload_n 0, 1), (0, 0, 0, 0)), (128, 130, (.iload 4, 2), (4, 0, 0, 0)), (130, 131, (.iconst (-1), 1), (0, 0, 0, 0)), (131, 134, (.if_icmp .eq 8, 3), (139, 0, 0, 0)), (134, 135, (.iload_n 3, 1), (3, 0, 0, 0)), (135, 136, (.iconst (-1), 1), (0, 0, 0, 0)), (136, 139, (.if_icmp .ne 7, 3), (143, 0, 0, 0)), (139, 140, (.iconst 1, 1), (0, 0, 0, 0)), (140, 143, (.goto 4, 3), (144, 0, 0, 0)), (143, 144, (.iconst 0, 1), (0, 0, 0, 0)), (144, 147, (.invokevirtual 151, 3), (125, 1, 0, 7)), (147, 150, (.ifCond .eq 5, 3), (152, 0, 0, 0)), (150, 151, (.iconst 0, 1), (0, 0, 0, 0)), (151, 152, (.ireturn, 1), (0, 0, 0, 0)), (152, 154, (.bipush 100, 2), (0, 0, 0, 0)), (154, 155, (.aload_n 0, 1), (0, 0, 0, 0)), (155, 156, (.aload_n 0, 1), (0, 0, 0, 0)), (156, 158, (.iload 4, 2), (4, 0, 0, 0)), (158, 159, (.iload_n 3, 1), (3, 0, 0, 0)), (159, 162, (.invokevirtual 81, 3), (128, 2, 0, 7)), (162, 165, (.invokevirtual 179, 3), (154, 1, 0, 7)), (165, 166, (.imul, 1), (0, 0, 0, 0)), (166, 167, (.aload_n 0, 1), (0, 0, 0, 0)), (167, 168, (.aload_n 0, 1), (0, 0, 0, 0)), (168, 170, (.iload 4, 2), (4, 0, 0, 0)), (170, 171, (.iload_n 3, 1), (3, 0, 0, 0)), (171, 174, (.invokevirtual 81, 3), (128, 2, 0, 7)), (174, 177, (.invokevirtual 175, 3), (155, 1, 0, 7)), (177, 178, (.iadd, 1), (0, 0, 0, 0)), (178, 179, (.ireturn, 1), (0, 0, 0, 0))], [(11, [0, 1, 2, 3, 4, 5, 6]), (71, [0, 2, 3, 4, 5, 6])], [], (1, 7), [])
def mc_X6_changes : mg_C := ([(0, 1, (.iconst 0, 1), (0, 0, 0, 0)), (1, 2, (.istore_n 3, 1), (3, 0, 0, 0)), (2, 3, (.iload_n 3, 1), (3, 0, 0, 0)), (3, 4, (.iload_n 2, 1), (2, 0, 0, 0)), (4, 7, (.if_icmp .ge 25, 3), (29, 0, 0, 0)), (7, 8, (.aload_n 0, 1), (0, 0, 0, 0)), (8, 9, (.iload_n 3, 1), (3, 0, 0, 0)), (9, 10, (.iaload, 1), (8, 0, 0, 0)), (10, 12, (.istore 4, 2), (4, 0, 0, 0)), (12, 13, (.aload_n 0, 1), (0, 0, 0, 0)), (13, 14, (.iload_n 3, 1), (3, 0, 0, 0)), (14, 15, (.aload_n 1, 1), (1, 0, 0, 0)), (15, 16, (.iload_n 3, 1), (3, 0, 0, 0)), (16, 17, (.iaload, 1), (8, 0, 0, 0)), (17, 18, (.iastore, 1), (0, 0, 0, 0)), (18, 19, (.aload_n 1, 1), (1, 0, 0, 0)), (19, 20, (.iload_n 3, 1), (3, 0, 0, 0)), (20, 22, (.iload 4, 2), (4, 0, 0, 0)), (22, 23, (.iastore, 1), (0, 0, 0, 0)), (23, 26, (.iinc 3 1, 3), (3, 0, 0, 0)), (26, 29, (.goto (-24), 3), (2, 0, 0, 0)), (29, 30, (.return_, 1), (0, 0, 0, 0))], [(2, [0, 1, 2, 3])], [], (0, 7), [])
def mc_X6_takeBack : mg_C := ([(0, 1, (.aload_n 0, 1), (0, 0, 0, 0)), (1, 2, (.aload_n 0, 1), (0, 0, 0, 0)), (2, 5, (.getfield 89, 3), (7, 10, 2, 0)), (5, 8, (.ifCond .eq 7, 3), (12, 0, 0, 0)), (8, 9, (.iconst 0, 1), (0, 0, 0, 0)), (9, 12, (.goto 4, 3), (13, 0, 0, 0)), (12, 13, (.iconst 1, 1), (0, 0, 0, 0)), (13, 16, (.invokevirtual 151, 3), (125, 1, 0, 7)), (16, 19, (.ifCond .eq 5, 3), (21, 0, 0, 0)), (19, 20, (.iconst 0, 1), (0, 0, 0, 0)), (20, 21, (.ireturn, 1), (0, 0, 0, 0)), (21, 22, (.aload_n 0, 1), (0, 0, 0, 0)), (22, 25, (.getfield 78, 3), (7, 4, 0, 0)), (25, 26, (.istore_n 1, 1), (1, 0, 0, 0)), (26, 27, (.aload_n 0, 1), (0, 0, 0, 0)), (27, 30, (.getfield 7, 3), (7, 1, 0, 0)), (30, 31, (.istore_n 2, 1), (2, 0, 0, 0)), (31, 32, (.aload_n 0, 1), (0, 0, 0, 0)), (32, 33, (.aload_n 0, 1), (0, 0, 0, 0)), (33, 36, (.getfield 93, 3), (7, 11, 0, 0)), (36, 39, (.putfield 7, 3), (7, 1, 0, 0)), (39, 40, (.aload_n 0, 1), (0, 0, 0, 0)), (40, 41, (.iload_n 2, 1), (2, 0, 0, 0)), (41, 44, (.putfield 93, 3), (7, 11, 0, 0)), (44, 45, (.aload_n 0, 1), (0, 0, 0, 0)), (45, 48, (.getfield 13, 3), (7, 2, 0, 0)), (48, 49, (.istore_n 2, 1), (2, 0, 0, 0)), (49, 50, (.aload_n 0, 1), (0, 0, 0, 0)), (50, 51, (.aload_n 0, 1), (0, 0, 0, 0)), (51, 54, (.getfield 96, 3), (7, 12, 0, 0)), (54, 57, (.putfield 13, 3), (7, 2, 0, 0)), (57, 58, (.aload_n 0, 1), (0, 0, 0, 0)), (58, 59, (.iload_n 2, 1), (2, 0, 0, 0)), (59, 62, (.putfield 96, 3), (7, 12, 0, 0)), (62, 63, (.aload_n 0, 1), (0, 0, 0, 0)), (63, 66, (.getfield 99, 3), (7, 3, 0, 0)), (66, 67, (.istore_n 2, 1), (2, 0, 0, 0)), (67, 68, (.aload_n 0, 1), (0, 0, 0, 0)), (68, 69, (.aload_n 0, 1), (0, 0, 0, 0)), (69, 72, (.getfield 102, 3), (7, 13, 0, 0)), (72, 75, (.putfield 99, 3), (7, 3, 0, 0)), (75, 76, (.aload_n 0, 1), (0, 0, 0, 0)), (76, 77, (.iload_n 2, 1), (2, 0, 0, 0)), (77, 80, (.putfield 102, 3), (7, 13, 0, 0)), (80, 81, (.aload_n 0, 1), (0, 0, 0, 0)), (81, 84, (.getfield 16, 3), (7, 5, 1, 0)), (84, 85, (.aload_n 0, 1), (0, 0, 0, 0)), (85, 88, (.getfield 32, 3), (7, 14, 1, 0)), (88, 90, (.bipush 120, 2), (0, 0, 0, 0)), (90, 93, (.invokestatic 254, 3), (201, 3, 0, 0)), (93, 94, (.aload_n 0, 1), (0, 0, 0, 0)), (94, 97, (.getfield 20, 3), (7, 6, 1, 0)), (97, 98, (.aload_n 0, 1), (0, 0, 0, 0)), (98, 101, (.getfield 35, 3), (7, 15, 1, 0)), (101, 104, (.sipush 140, 3), (0, 0, 0, 0)), (104, 107, (.invokestatic 254, 3), (201, 3, 0, 0)), (107, 108, (.aload_n 0, 1), (0, 0, 0, 0)), (108, 111, (.getfield 23, 3), (7, 7, 1, 0)), (111, 112, (.aload_n 0, 1), (0, 0, 0, 0)), (112, 115, (.getfield 38, 3), (7, 16, 1, 0)), (115, 118, (.sipush 140, 3), (0, 0, 0, 0)), (118, 121, (.invokestatic 254, 3), (201, 3, 0, 0)), (121, 122, (.aload_n 0, 1), (0, 0, 0, 0)), (122, 125, (.getfield 26, 3), (7, 8, 1, 0)), (125, 126, (.aload_n 0, 1), (0, 0, 0, 0)), (126, 129, (.getfield 41, 3), (7, 17, 1, 0)), (129, 131, (.bipush 10, 2), (0, 0, 0, 0)), (131, 134, (.invokestatic 254, 3), (201, 3, 0, 0)), (134, 135, (.aload_n 0, 1), (0, 0, 0, 0)), (135, 138, (.getfield 29, 3), (7, 9, 1, 0)), (138, 139, (.aload_n 0, 1), (0, 0, 0, 0)), (139, 142, (.getfield 44, 3), (7, 18, 1, 0)), (142, 144, (.bipush 12, 2), (0, 0, 0, 0)), (144, 147, (.invokestatic 254, 3), (201, 3, 0, 0)), (147, 148, (.aload_n 0, 1), (0, 0, 0, 0)), (148, 151, (.invokevirtual 68, 3), (129, 0, 0, 7)), (151, 152, (.aload_n 0, 1), (0, 0, 0, 0)), (152, 155, (.invokevirtual 163, 3), (138, 0, 0, 7)), (155, 156, (.iload_n 1, 1), (1, 0, 0, 0)), (156, 157, (.aload_n 0, 1), (0, 0, 0, 0)), (157, 160, (.getfield 78, 3), (7, 4, 0, 0)), (160, 163, (.if_icmp .ne 7, 3), (167, 0, 0, 0)), (163, 164, (.iconst 1, 1), (0, 0, 0, 0)), (164, 167, (.goto 4, 3), (168, 0, 0, 0)), (167, 168, (.iconst 0, 1), (0, 0, 0, 0)), (168, 169, (.ireturn, 1), (0, 0, 0, 0))], [], [], (2, 7), [])
def mc_X6_sum : mg_C := ([(0, 1, (.aload_n 0, 1), (0, 0, 0, 0)), (1, 2, (.iconst 0, 1), (0, 0, 0, 0)), (2, 5, (.putfield 71, 3), (7, 0, 0, 0)), (5, 6, (.aload_n 0, 1), (0, 0, 0, 0)), (6, 9, (.invokevirtual 205, 3), (173, 0, 0, 7)), (9, 10, (.i2l, 1), (0, 0, 0, 0)), (10, 11, (.lreturn, 1), (0, 0, 0, 0))], [], [], (4, 7), [])
def mc_X6_mean : mg_C := ([(0, 1, (.aload_n 0, 1), (0, 0, 0, 0)), (1, 2, (.aload_n 0, 1), (0, 0, 0, 0)), (2, 5, (.invokevirtual 202, 3), (172, 0, 0, 7)), (5, 8, (.ifCond .ne 7, 3), (12, 0, 0, 0)), (8, 9, (.iconst 1, 1), (0, 0, 0, 0)), (9, 12, (.goto 4, 3), (13, 0, 0, 0)), (12, 13, (.iconst 0, 1), (0, 0, 0, 0)), (13, 16, (.invokevirtual 151, 3), (125, 1, 0, 7)), (16, 19, (.ifCond .eq 7, 3), (23, 0, 0, 0)), (19, 20, (.dconst 0, 1), (0, 0, 0, 0)), (20, 23, (.goto 14, 3), (34, 0, 0, 0)), (23, 24, (.aload_n 0, 1), (0, 0, 0, 0)), (24, 27, (.invokevirtual 205, 3), (173, 0, 0, 7)), (27, 28, (.i2d, 1), (0, 0, 0, 0)), (28, 29, (.aload_n 0, 1), (0, 0, 0, 0)), (29, 32, (.invokevirtual 202, 3), (172, 0, 0, 7)), (32, 33, (.i2d, 1), (0, 0, 0, 0)), (33, 34, (.ddiv, 1), (0, 0, 0, 0)), (34, 35, (.dreturn, 1), (0, 0, 0, 0))], [], [], (6, 7), [])
def mc_X6_mergedShare : mg_C := ([(0, 1, (.aload_n 0, 1), (0, 0, 0, 0)), (1, 2, (.iconst 0, 1), (0, 0, 0, 0)), (2, 5, (.putfield 71, 3), (7, 0, 0, 0)), (5, 6, (.iconst 0, 1), (0, 0, 0, 0)), (6, 7, (.istore_n 1, 1), (1, 0, 0, 0)), (7, 8, (.iconst 0, 1), (0, 0, 0, 0)), (8, 9, (.istore_n 2, 1), (2, 0, 0, 0)), (9, 10, (.iload_n 2, 1), (2, 0, 0, 0)), (10, 11, (.aload_n 0, 1), (0, 0, 0, 0)), (11, 14, (.getfield 7, 3), (7, 1, 0, 0)), (14, 17, (.if_icmp .ge 58, 3), (72, 0, 0, 0)), (17, 18, (.iconst 0, 1), (0, 0, 0, 0)), (18, 19, (.istore_n 3, 1), (3, 0, 0, 0)), (19, 20, (.iload_n 3, 1), (3, 0, 0, 0)), (20, 21, (.aload_n 0, 1), (0, 0, 0, 0)), (21, 24, (.getfield 13, 3), (7, 2, 0, 0)), (24, 27, (.if_icmp .ge 42, 3), (66, 0, 0, 0)), (27, 28, (.iload_n 1, 1), (1, 0, 0, 0)), (28, 29, (.aload_n 0, 1), (0, 0, 0, 0)), (29, 30, (.aload_n 0, 1), (0, 0, 0, 0)), (30, 31, (.iload_n 2, 1), (2, 0, 0, 0)), (31, 32, (.iload_n 3, 1), (3, 0, 0, 0)), (32, 35, (.invokevirtual 81, 3), (128, 2, 0, 7)), (35, 38, (.invokevirtual 185, 3), (156, 1, 0, 7)), (38, 39, (.aload_n 0, 1), (0, 0, 0, 0)), (39, 40, (.aload_n 0, 1), (0, 0, 0, 0)), (40, 41, (.iload_n 2, 1), (2, 0, 0, 0)), (41, 42, (.iload_n 3, 1), (3, 0, 0, 0)), (42, 45, (.invokevirtual 81, 3), (128, 2, 0, 7)), (45, 48, (.invokevirtual 188, 3), (157, 1, 0, 7)), (48, 49, (.imul, 1), (0, 0, 0, 0)), (49, 50, (.iconst 1, 1), (0, 0, 0, 0)), (50, 53, (.if_icmp .le 7, 3), (57, 0, 0, 0)), (53, 54, (.iconst 1, 1), (0, 0, 0, 0)), (54, 57, (.goto 4, 3), (58, 0, 0, 0)), (57, 58, (.iconst 0, 1), (0, 0, 0, 0)), (58, 59, (.iadd, 1), (0, 0, 0, 0)), (59, 60, (.istore_n 1, 1), (1, 0, 0, 0)), (60, 63, (.iinc 3 1, 3), (3, 0, 0, 0)), (63, 66, (.goto (-44), 3), (19, 0, 0, 0)), (66, 69, (.iinc 2 1, 3), (2, 0, 0, 0)), (69, 72, (.goto (-60), 3), (9, 0, 0, 0)), (72, 73, (.iload_n 1, 1), (1, 0, 0, 0)), (73, 74, (.i2f, 1), (0, 0, 0, 0)), (74, 75, (.aload_n 0, 1), (0, 0, 0, 0)), (75, 78, (.getfield 7, 3), (7, 1, 0, 0)), (78, 79, (.aload_n 0, 1), (0, 0, 0, 0)), (79, 82, (.getfield 13, 3), (7, 2, 0, 0)), (82, 83, (.imul, 1), (0, 0, 0, 0)), (83, 84, (.i2f, 1), (0, 0, 0, 0)), (84, 85, (.fdiv, 1), (0, 0, 0, 0)), (85, 86, (.freturn, 1), (0, 0, 0, 0))], [(9, [0, 1, 2]), (19, [0, 1, 2, 3])], [], (5, 7), [])
def mc_X6_isTiled : mg_C := ([(0, 1, (.aload_n 0, 1), (0, 0, 0, 0)), (1, 2, (.iconst 0, 1), (0, 0, 0, 0)), (2, 5, (.putfield 71, 3), (7, 0, 0, 0)), (5, 6, (.aload_n 0, 1), (0, 0, 0, 0)), (6, 7, (.aload_n 0, 1), (0, 0, 0, 0)), (7, 10, (.getfield 99, 3), (7, 3, 0, 0)), (10, 13, (.invokevirtual 248, 3), (188, 1, 0, 7)), (13, 16, (.ifCond .ne 7, 3), (20, 0, 0, 0)), (16, 17, (.iconst 1, 1), (0, 0, 0, 0)), (17, 20, (.goto 4, 3), (21, 0, 0, 0)), (20, 21, (.iconst 0, 1), (0, 0, 0, 0)), (21, 22, (.ireturn, 1), (0, 0, 0, 0))], [], [], (2, 7), [])
def mc_L_insertRow : mg_C := ([(0, 1, (.aload_n 2, 1), (2, 0, 0, 0)), (1, 2, (.iconst 0, 1), (0, 0, 0, 0)), (2, 3, (.aload_n 0, 1), (0, 0, 0, 0)), (3, 4, (.iload_n 1, 1), (1, 0, 0, 0)), (4, 7, (.invokevirtual 7, 3), (76, 1, 1, 6)), (7, 8, (.i2l, 1), (0, 0, 0, 0)), (8, 9, (.lastore, 1), (0, 0, 0, 0)), (9, 12, (.goto 9, 3), (18, 0, 0, 0)), (12, 13, (.astore_n 3, 1), (3, 0, 0, 0)), (13, 14, (.iconst 1, 1), (0, 0, 0, 0)), (14, 15, (.ireturn, 1), (0, 0, 0, 0)), (15, 16, (.astore_n 3, 1), (3, 0, 0, 0)), (16, 17, (.iconst 2, 1), (0, 0, 0, 0)), (17, 18, (.ireturn, 1), (0, 0, 0, 0)), (18, 19, (.iconst 0, 1), (0, 0, 0, 0)), (19, 20, (.ireturn, 1), (0, 0, 0, 0))], [], [(0, 9, 12, 1), (0, 9, 15, 2)], (1, 9), [])
def mc_L_insertColumn : mg_C := ([(0, 1, (.aload_n 2, 1), (2, 0, 0, 0)), (1, 2, (.iconst 0, 1), (0, 0, 0, 0)), (2, 3, (.aload_n 0, 1), (0, 0, 0, 0)), (3, 4, (.iload_n 1, 1), (1, 0, 0, 0)), (4, 7, (.invokevirtual 17, 3), (77, 1, 1, 6)), (7, 8, (.i2l, 1), (0, 0, 0, 0)), (8, 9, (.lastore, 1), (0, 0, 0, 0)), (9, 12, (.goto 9, 3), (18, 0, 0, 0)), (12, 13, (.astore_n 3, 1), (3, 0, 0, 0)), (13, 14, (.iconst 1, 1), (0, 0, 0, 0)), (14, 15, (.ireturn, 1), (0, 0, 0, 0)), (15, 16, (.astore_n 3, 1), (3, 0, 0, 0)), (16, 17, (.iconst 2, 1), (0, 0, 0, 0)), (17, 18, (.ireturn, 1), (0, 0, 0, 0)), (18, 19, (.iconst 0, 1), (0, 0, 0, 0)), (19, 20, (.ireturn, 1), (0, 0, 0, 0))], [], [(0, 9, 12, 1), (0, 9, 15, 2)], (1, 9), [])
def mc_L_deleteRow : mg_C := ([(0, 1, (.aload_n 2, 1), (2, 0, 0, 0)), (1, 2, (.iconst 0, 1), (0, 0, 0, 0)), (2, 3, (.aload_n 0, 1), (0, 0, 0, 0)), (3, 4, (.iload_n 1, 1), (1, 0, 0, 0)), (4, 7, (.invokevirtual 20, 3), (78, 1, 2, 6)), (7, 8, (.i2l, 1), (0, 0, 0, 0)), (8, 9, (.lastore, 1), (0, 0, 0, 0)), (9, 12, (.goto 9, 3), (18, 0, 0, 0)), (12, 13, (.astore_n 3, 1), (3, 0, 0, 0)), (13, 14, (.iconst 1, 1), (0, 0, 0, 0)), (14, 15, (.ireturn, 1), (0, 0, 0, 0)), (15, 16, (.astore_n 3, 1), (3, 0, 0, 0)), (16, 17, (.iconst 2, 1), (0, 0, 0, 0)), (17, 18, (.ireturn, 1), (0, 0, 0, 0)), (18, 19, (.iconst 0, 1), (0, 0, 0, 0)), (19, 20, (.ireturn, 1), (0, 0, 0, 0))], [], [(0, 9, 12, 1), (0, 9, 15, 2)], (1, 9), [])
def mc_L_deleteColumn : mg_C := ([(0, 1, (.aload_n 2, 1), (2, 0, 0, 0)), (1, 2, (.iconst 0, 1), (0, 0, 0, 0)), (2, 3, (.aload_n 0, 1), (0, 0, 0, 0)), (3, 4, (.iload_n 1, 1), (1, 0, 0, 0)), (4, 7, (.invokevirtual 23, 3), (79, 1, 2, 6)), (7, 8, (.i2l, 1), (0, 0, 0, 0)), (8, 9, (.lastore, 1), (0, 0, 0, 0)), (9, 12, (.goto 9, 3), (18, 0, 0, 0)), (12, 13, (.astore_n 3, 1), (3, 0, 0, 0)), (13, 14, (.iconst 1, 1), (0, 0, 0, 0)), (14, 15, (.ireturn, 1), (0, 0, 0, 0)), (15, 16, (.astore_n 3, 1), (3, 0, 0, 0)), (16, 17, (.iconst 2, 1), (0, 0, 0, 0)), (17, 18, (.ireturn, 1), (0, 0, 0, 0)), (18, 19, (.iconst 0, 1), (0, 0, 0, 0)), (19, 20, (.ireturn, 1), (0, 0, 0, 0))], [], [(0, 9, 12, 1), (0, 9, 15, 2)], (1, 9), [])
def mc_L_moveRow : mg_C := ([(0, 1, (.aload_n 3, 1), (3, 0, 0, 0)), (1, 2, (.iconst 0, 1), (0, 0, 0, 0)), (2, 3, (.aload_n 0, 1), (0, 0, 0, 0)), (3, 4, (.iload_n 1, 1), (1, 0, 0, 0)), (4, 5, (.iload_n 2, 1), (2, 0, 0, 0)), (5, 8, (.invokevirtual 26, 3), (80, 2, 3, 6)), (8, 9, (.i2l, 1), (0, 0, 0, 0)), (9, 10, (.lastore, 1), (0, 0, 0, 0)), (10, 13, (.goto 15, 3), (25, 0, 0, 0)), (13, 15, (.astore 4, 2), (4, 0, 0, 0)), (15, 16, (.iconst 1, 1), (0, 0, 0, 0)), (16, 17, (.ireturn, 1), (0, 0, 0, 0)), (17, 19, (.astore 4, 2), (4, 0, 0, 0)), (19, 20, (.iconst 2, 1), (0, 0, 0, 0)), (20, 21, (.ireturn, 1), (0, 0, 0, 0)), (21, 23, (.astore 4, 2), (4, 0, 0, 0)), (23, 24, (.iconst 3, 1), (0, 0, 0, 0)), (24, 25, (.ireturn, 1), (0, 0, 0, 0)), (25, 26, (.iconst 0, 1), (0, 0, 0, 0)), (26, 27, (.ireturn, 1), (0, 0, 0, 0))], [], [(0, 10, 13, 1), (0, 10, 17, 3), (0, 10, 21, 4)], (1, 9), [])
def mc_L_topOf : mg_C := ([(0, 1, (.aload_n 3, 1), (3, 0, 0, 0)), (1, 2, (.iconst 0, 1), (0, 0, 0, 0)), (2, 3, (.aload_n 0, 1), (0, 0, 0, 0)), (3, 4, (.iload_n 1, 1), (1, 0, 0, 0)), (4, 5, (.iload_n 2, 1), (2, 0, 0, 0)), (5, 8, (.invokevirtual 34, 3), (81, 2, 2, 6)), (8, 9, (.i2l, 1), (0, 0, 0, 0)), (9, 10, (.lastore, 1), (0, 0, 0, 0)), (10, 13, (.goto 7, 3), (17, 0, 0, 0)), (13, 15, (.astore 4, 2), (4, 0, 0, 0)), (15, 16, (.iconst 1, 1), (0, 0, 0, 0)), (16, 17, (.ireturn, 1), (0, 0, 0, 0)), (17, 18, (.iconst 0, 1), (0, 0, 0, 0)), (18, 19, (.ireturn, 1), (0, 0, 0, 0))], [], [(0, 10, 13, 1)], (1, 9), [])
def mc_L_leftOf : mg_C := ([(0, 1, (.aload_n 3, 1), (3, 0, 0, 0)), (1, 2, (.iconst 0, 1), (0, 0, 0, 0)), (2, 3, (.aload_n 0, 1), (0, 0, 0, 0)), (3, 4, (.iload_n 1, 1), (1, 0, 0, 0)), (4, 5, (.iload_n 2, 1), (2, 0, 0, 0)), (5, 8, (.invokevirtual 37, 3), (82, 2, 2, 6)), (8, 9, (.i2l, 1), (0, 0, 0, 0)), (9, 10, (.lastore, 1), (0, 0, 0, 0)), (10, 13, (.goto 7, 3), (17, 0, 0, 0)), (13, 15, (.astore 4, 2), (4, 0, 0, 0)), (15, 16, (.iconst 1, 1), (0, 0, 0, 0)), (16, 17, (.ireturn, 1), (0, 0, 0, 0)), (17, 18, (.iconst 0, 1), (0, 0, 0, 0)), (18, 19, (.ireturn, 1), (0, 0, 0, 0))], [], [(0, 10, 13, 1)], (1, 9), [])
def mc_L_rowsOf : mg_C := ([(0, 1, (.aload_n 3, 1), (3, 0, 0, 0)), (1, 2, (.iconst 0, 1), (0, 0, 0, 0)), (2, 3, (.aload_n 0, 1), (0, 0, 0, 0)), (3, 4, (.iload_n 1, 1), (1, 0, 0, 0)), (4, 5, (.iload_n 2, 1), (2, 0, 0, 0)), (5, 8, (.invokevirtual 40, 3), (83, 2, 2, 6)), (8, 9, (.i2l, 1), (0, 0, 0, 0)), (9, 10, (.lastore, 1), (0, 0, 0, 0)), (10, 13, (.goto 7, 3), (17, 0, 0, 0)), (13, 15, (.astore 4, 2), (4, 0, 0, 0)), (15, 16, (.iconst 1, 1), (0, 0, 0, 0)), (16, 17, (.ireturn, 1), (0, 0, 0, 0)), (17, 18, (.iconst 0, 1), (0, 0, 0, 0)), (18, 19, (.ireturn, 1), (0, 0, 0, 0))], [], [(0, 10, 13, 1)], (1, 9), [])
def mc_L_columnsOf : mg_C := ([(0, 1, (.aload_n 3, 1), (3, 0, 0, 0)), (1, 2, (.iconst 0, 1), (0, 0, 0, 0)), (2, 3, (.aload_n 0, 1), (0, 0, 0, 0)), (3, 4, (.iload_n 1, 1), (1, 0, 0, 0)), (4, 5, (.iload_n 2, 1), (2, 0, 0, 0)), (5, 8, (.invokevirtual 43, 3), (84, 2, 2, 6)), (8, 9, (.i2l, 1), (0, 0, 0, 0)), (9, 10, (.lastore, 1), (0, 0, 0, 0)), (10, 13, (.goto 7, 3), (17, 0, 0, 0)), (13, 15, (.astore 4, 2), (4, 0, 0, 0)), (15, 16, (.iconst 1, 1), (0, 0, 0, 0)), (16, 17, (.ireturn, 1), (0, 0, 0, 0)), (17, 18, (.iconst 0, 1), (0, 0, 0, 0)), (18, 19, (.ireturn, 1), (0, 0, 0, 0))], [], [(0, 10, 13, 1)], (1, 9), [])
def mc_L_contentAt : mg_C := ([(0, 1, (.aload_n 3, 1), (3, 0, 0, 0)), (1, 2, (.iconst 0, 1), (0, 0, 0, 0)), (2, 3, (.aload_n 0, 1), (0, 0, 0, 0)), (3, 4, (.iload_n 1, 1), (1, 0, 0, 0)), (4, 5, (.iload_n 2, 1), (2, 0, 0, 0)), (5, 8, (.invokevirtual 46, 3), (85, 2, 2, 6)), (8, 9, (.i2l, 1), (0, 0, 0, 0)), (9, 10, (.lastore, 1), (0, 0, 0, 0)), (10, 13, (.goto 7, 3), (17, 0, 0, 0)), (13, 15, (.astore 4, 2), (4, 0, 0, 0)), (15, 16, (.iconst 1, 1), (0, 0, 0, 0)), (16, 17, (.ireturn, 1), (0, 0, 0, 0)), (17, 18, (.iconst 0, 1), (0, 0, 0, 0)), (18, 19, (.ireturn, 1), (0, 0, 0, 0))], [], [(0, 10, 13, 1)], (1, 9), [])
def mc_L_styleAt : mg_C := ([(0, 1, (.aload_n 3, 1), (3, 0, 0, 0)), (1, 2, (.iconst 0, 1), (0, 0, 0, 0)), (2, 3, (.aload_n 0, 1), (0, 0, 0, 0)), (3, 4, (.iload_n 1, 1), (1, 0, 0, 0)), (4, 5, (.iload_n 2, 1), (2, 0, 0, 0)), (5, 8, (.invokevirtual 49, 3), (86, 2, 2, 6)), (8, 9, (.i2l, 1), (0, 0, 0, 0)), (9, 10, (.lastore, 1), (0, 0, 0, 0)), (10, 13, (.goto 7, 3), (17, 0, 0, 0)), (13, 15, (.astore 4, 2), (4, 0, 0, 0)), (15, 16, (.iconst 1, 1), (0, 0, 0, 0)), (16, 17, (.ireturn, 1), (0, 0, 0, 0)), (17, 18, (.iconst 0, 1), (0, 0, 0, 0)), (18, 19, (.ireturn, 1), (0, 0, 0, 0))], [], [(0, 10, 13, 1)], (1, 9), [])
def mc_L_setContent : mg_C := ([(0, 2, (.aload 4, 2), (4, 0, 0, 0)), (2, 3, (.iconst 0, 1), (0, 0, 0, 0)), (3, 4, (.aload_n 0, 1), (0, 0, 0, 0)), (4, 5, (.iload_n 1, 1), (1, 0, 0, 0)), (5, 6, (.iload_n 2, 1), (2, 0, 0, 0)), (6, 7, (.iload_n 3, 1), (3, 0, 0, 0)), (7, 10, (.invokevirtual 52, 3), (87, 3, 3, 6)), (10, 11, (.i2l, 1), (0, 0, 0, 0)), (11, 12, (.lastore, 1), (0, 0, 0, 0)), (12, 15, (.goto 11, 3), (23, 0, 0, 0)), (15, 17, (.astore 5, 2), (5, 0, 0, 0)), (17, 18, (.iconst 1, 1), (0, 0, 0, 0)), (18, 19, (.ireturn, 1), (0, 0, 0, 0)), (19, 21, (.astore 5, 2), (5, 0, 0, 0)), (21, 22, (.iconst 2, 1), (0, 0, 0, 0)), (22, 23, (.ireturn, 1), (0, 0, 0, 0)), (23, 24, (.iconst 0, 1), (0, 0, 0, 0)), (24, 25, (.ireturn, 1), (0, 0, 0, 0))], [], [(0, 12, 15, 1), (0, 12, 19, 3)], (1, 9), [])
def mc_L_setStyle : mg_C := ([(0, 1, (.aload_n 2, 1), (2, 0, 0, 0)), (1, 2, (.iconst 0, 1), (0, 0, 0, 0)), (2, 3, (.aload_n 0, 1), (0, 0, 0, 0)), (3, 4, (.iload_n 1, 1), (1, 0, 0, 0)), (4, 7, (.invokevirtual 56, 3), (88, 1, 1, 6)), (7, 8, (.i2l, 1), (0, 0, 0, 0)), (8, 9, (.lastore, 1), (0, 0, 0, 0)), (9, 12, (.goto 6, 3), (15, 0, 0, 0)), (12, 13, (.astore_n 3, 1), (3, 0, 0, 0)), (13, 14, (.iconst 1, 1), (0, 0, 0, 0)), (14, 15, (.ireturn, 1), (0, 0, 0, 0)), (15, 16, (.iconst 0, 1), (0, 0, 0, 0)), (16, 17, (.ireturn, 1), (0, 0, 0, 0))], [], [(0, 9, 12, 3)], (1, 9), [])
def mc_L_select : mg_C := ([(0, 2, (.aload 5, 2), (5, 0, 0, 0)), (2, 3, (.iconst 0, 1), (0, 0, 0, 0)), (3, 4, (.aload_n 0, 1), (0, 0, 0, 0)), (4, 5, (.iload_n 1, 1), (1, 0, 0, 0)), (5, 6, (.iload_n 2, 1), (2, 0, 0, 0)), (6, 7, (.iload_n 3, 1), (3, 0, 0, 0)), (7, 9, (.iload 4, 2), (4, 0, 0, 0)), (9, 12, (.invokevirtual 59, 3), (89, 4, 4, 6)), (12, 13, (.i2l, 1), (0, 0, 0, 0)), (13, 14, (.lastore, 1), (0, 0, 0, 0)), (14, 17, (.goto 7, 3), (21, 0, 0, 0)), (17, 19, (.astore 6, 2), (6, 0, 0, 0)), (19, 20, (.iconst 1, 1), (0, 0, 0, 0)), (20, 21, (.ireturn, 1), (0, 0, 0, 0)), (21, 22, (.iconst 0, 1), (0, 0, 0, 0)), (22, 23, (.ireturn, 1), (0, 0, 0, 0))], [], [(0, 14, 17, 1)], (1, 9), [])
def mc_L_selected : mg_C := ([(0, 1, (.aload_n 2, 1), (2, 0, 0, 0)), (1, 2, (.iconst 0, 1), (0, 0, 0, 0)), (2, 3, (.aload_n 0, 1), (0, 0, 0, 0)), (3, 4, (.iload_n 1, 1), (1, 0, 0, 0)), (4, 7, (.invokevirtual 63, 3), (90, 1, 1, 6)), (7, 8, (.i2l, 1), (0, 0, 0, 0)), (8, 9, (.lastore, 1), (0, 0, 0, 0)), (9, 12, (.goto 6, 3), (15, 0, 0, 0)), (12, 13, (.astore_n 3, 1), (3, 0, 0, 0)), (13, 14, (.iconst 1, 1), (0, 0, 0, 0)), (14, 15, (.ireturn, 1), (0, 0, 0, 0)), (15, 16, (.iconst 0, 1), (0, 0, 0, 0)), (16, 17, (.ireturn, 1), (0, 0, 0, 0))], [], [(0, 9, 12, 3)], (1, 9), [])
def mc_L_squaresFor : mg_C := ([(0, 2, (.aload 5, 2), (5, 0, 0, 0)), (2, 3, (.iconst 0, 1), (0, 0, 0, 0)), (3, 4, (.aload_n 0, 1), (0, 0, 0, 0)), (4, 5, (.iload_n 1, 1), (1, 0, 0, 0)), (5, 6, (.iload_n 2, 1), (2, 0, 0, 0)), (6, 7, (.iload_n 3, 1), (3, 0, 0, 0)), (7, 9, (.iload 4, 2), (4, 0, 0, 0)), (9, 12, (.invokevirtual 67, 3), (92, 4, 4, 6)), (12, 13, (.i2l, 1), (0, 0, 0, 0)), (13, 14, (.lastore, 1), (0, 0, 0, 0)), (14, 17, (.goto 7, 3), (21, 0, 0, 0)), (17, 19, (.astore 6, 2), (6, 0, 0, 0)), (19, 20, (.iconst 1, 1), (0, 0, 0, 0)), (20, 21, (.ireturn, 1), (0, 0, 0, 0)), (21, 22, (.iconst 0, 1), (0, 0, 0, 0)), (22, 23, (.ireturn, 1), (0, 0, 0, 0))], [], [(0, 14, 17, 1)], (1, 9), [])
def mc_L_merge : mg_C := ([(0, 1, (.aload_n 1, 1), (1, 0, 0, 0)), (1, 2, (.iconst 0, 1), (0, 0, 0, 0)), (2, 3, (.aload_n 0, 1), (0, 0, 0, 0)), (3, 6, (.invokevirtual 70, 3), (93, 0, 1, 6)), (6, 7, (.i2l, 1), (0, 0, 0, 0)), (7, 8, (.lastore, 1), (0, 0, 0, 0)), (8, 11, (.goto 9, 3), (17, 0, 0, 0)), (11, 12, (.astore_n 2, 1), (2, 0, 0, 0)), (12, 13, (.iconst 1, 1), (0, 0, 0, 0)), (13, 14, (.ireturn, 1), (0, 0, 0, 0)), (14, 15, (.astore_n 2, 1), (2, 0, 0, 0)), (15, 16, (.iconst 2, 1), (0, 0, 0, 0)), (16, 17, (.ireturn, 1), (0, 0, 0, 0)), (17, 18, (.iconst 0, 1), (0, 0, 0, 0)), (18, 19, (.ireturn, 1), (0, 0, 0, 0))], [], [(0, 8, 11, 2), (0, 8, 14, 4)], (1, 9), [])
def mc_L_split : mg_C := ([(0, 2, (.aload 4, 2), (4, 0, 0, 0)), (2, 3, (.iconst 0, 1), (0, 0, 0, 0)), (3, 4, (.aload_n 0, 1), (0, 0, 0, 0)), (4, 5, (.iload_n 1, 1), (1, 0, 0, 0)), (5, 6, (.iload_n 2, 1), (2, 0, 0, 0)), (6, 7, (.iload_n 3, 1), (3, 0, 0, 0)), (7, 10, (.invokevirtual 74, 3), (94, 3, 3, 6)), (10, 11, (.i2l, 1), (0, 0, 0, 0)), (11, 12, (.lastore, 1), (0, 0, 0, 0)), (12, 15, (.goto 15, 3), (27, 0, 0, 0)), (15, 17, (.astore 5, 2), (5, 0, 0, 0)), (17, 18, (.iconst 1, 1), (0, 0, 0, 0)), (18, 19, (.ireturn, 1), (0, 0, 0, 0)), (19, 21, (.astore 5, 2), (5, 0, 0, 0)), (21, 22, (.iconst 2, 1), (0, 0, 0, 0)), (22, 23, (.ireturn, 1), (0, 0, 0, 0)), (23, 25, (.astore 5, 2), (5, 0, 0, 0)), (25, 26, (.iconst 3, 1), (0, 0, 0, 0)), (26, 27, (.ireturn, 1), (0, 0, 0, 0)), (27, 28, (.iconst 0, 1), (0, 0, 0, 0)), (28, 29, (.ireturn, 1), (0, 0, 0, 0))], [], [(0, 12, 15, 1), (0, 12, 19, 3), (0, 12, 23, 2)], (1, 9), [])
def mc_L_clear : mg_C := ([(0, 1, (.aload_n 1, 1), (1, 0, 0, 0)), (1, 2, (.iconst 0, 1), (0, 0, 0, 0)), (2, 3, (.aload_n 0, 1), (0, 0, 0, 0)), (3, 6, (.invokevirtual 78, 3), (95, 0, 1, 6)), (6, 7, (.i2l, 1), (0, 0, 0, 0)), (7, 8, (.lastore, 1), (0, 0, 0, 0)), (8, 11, (.goto 6, 3), (14, 0, 0, 0)), (11, 12, (.astore_n 2, 1), (2, 0, 0, 0)), (12, 13, (.iconst 1, 1), (0, 0, 0, 0)), (13, 14, (.ireturn, 1), (0, 0, 0, 0)), (14, 15, (.iconst 0, 1), (0, 0, 0, 0)), (15, 16, (.ireturn, 1), (0, 0, 0, 0))], [], [(0, 8, 11, 2)], (1, 9), [])
def mc_L_paste : mg_C := ([(0, 2, (.aload 5, 2), (5, 0, 0, 0)), (2, 3, (.iconst 0, 1), (0, 0, 0, 0)), (3, 4, (.aload_n 0, 1), (0, 0, 0, 0)), (4, 5, (.iload_n 1, 1), (1, 0, 0, 0)), (5, 6, (.iload_n 2, 1), (2, 0, 0, 0)), (6, 7, (.iload_n 3, 1), (3, 0, 0, 0)), (7, 9, (.iload 4, 2), (4, 0, 0, 0)), (9, 12, (.invokevirtual 81, 3), (97, 4, 3, 6)), (12, 13, (.i2l, 1), (0, 0, 0, 0)), (13, 14, (.lastore, 1), (0, 0, 0, 0)), (14, 17, (.goto 19, 3), (33, 0, 0, 0)), (17, 19, (.astore 6, 2), (6, 0, 0, 0)), (19, 20, (.iconst 1, 1), (0, 0, 0, 0)), (20, 21, (.ireturn, 1), (0, 0, 0, 0)), (21, 23, (.astore 6, 2), (6, 0, 0, 0)), (23, 24, (.iconst 2, 1), (0, 0, 0, 0)), (24, 25, (.ireturn, 1), (0, 0, 0, 0)), (25, 27, (.astore 6, 2), (6, 0, 0, 0)), (27, 28, (.iconst 3, 1), (0, 0, 0, 0)), (28, 29, (.ireturn, 1), (0, 0, 0, 0)), (29, 31, (.astore 6, 2), (6, 0, 0, 0)), (31, 32, (.iconst 4, 1), (0, 0, 0, 0)), (32, 33, (.ireturn, 1), (0, 0, 0, 0)), (33, 34, (.iconst 0, 1), (0, 0, 0, 0)), (34, 35, (.ireturn, 1), (0, 0, 0, 0))], [], [(0, 14, 17, 1), (0, 14, 21, 3), (0, 14, 25, 2), (0, 14, 29, 4)], (1, 9), [])
def mc_L_setHeader : mg_C := ([(0, 1, (.aload_n 2, 1), (2, 0, 0, 0)), (1, 2, (.iconst 0, 1), (0, 0, 0, 0)), (2, 3, (.aload_n 0, 1), (0, 0, 0, 0)), (3, 4, (.iload_n 1, 1), (1, 0, 0, 0)), (4, 7, (.invokevirtual 84, 3), (98, 1, 1, 6)), (7, 8, (.i2l, 1), (0, 0, 0, 0)), (8, 9, (.lastore, 1), (0, 0, 0, 0)), (9, 12, (.goto 9, 3), (18, 0, 0, 0)), (12, 13, (.astore_n 3, 1), (3, 0, 0, 0)), (13, 14, (.iconst 1, 1), (0, 0, 0, 0)), (14, 15, (.ireturn, 1), (0, 0, 0, 0)), (15, 16, (.astore_n 3, 1), (3, 0, 0, 0)), (16, 17, (.iconst 2, 1), (0, 0, 0, 0)), (17, 18, (.ireturn, 1), (0, 0, 0, 0)), (18, 19, (.iconst 0, 1), (0, 0, 0, 0)), (19, 20, (.ireturn, 1), (0, 0, 0, 0))], [], [(0, 9, 12, 3), (0, 9, 15, 4)], (1, 9), [])
def mc_L_sort : mg_C := ([(0, 1, (.aload_n 3, 1), (3, 0, 0, 0)), (1, 2, (.iconst 0, 1), (0, 0, 0, 0)), (2, 3, (.aload_n 0, 1), (0, 0, 0, 0)), (3, 4, (.iload_n 1, 1), (1, 0, 0, 0)), (4, 5, (.iload_n 2, 1), (2, 0, 0, 0)), (5, 8, (.invokevirtual 87, 3), (100, 2, 2, 6)), (8, 9, (.i2l, 1), (0, 0, 0, 0)), (9, 10, (.lastore, 1), (0, 0, 0, 0)), (10, 13, (.goto 11, 3), (21, 0, 0, 0)), (13, 15, (.astore 4, 2), (4, 0, 0, 0)), (15, 16, (.iconst 1, 1), (0, 0, 0, 0)), (16, 17, (.ireturn, 1), (0, 0, 0, 0)), (17, 19, (.astore 4, 2), (4, 0, 0, 0)), (19, 20, (.iconst 2, 1), (0, 0, 0, 0)), (20, 21, (.ireturn, 1), (0, 0, 0, 0)), (21, 22, (.iconst 0, 1), (0, 0, 0, 0)), (22, 23, (.ireturn, 1), (0, 0, 0, 0))], [], [(0, 10, 13, 1), (0, 10, 17, 4)], (1, 9), [])
def mc_L_widthOf : mg_C := ([(0, 1, (.aload_n 2, 1), (2, 0, 0, 0)), (1, 2, (.iconst 0, 1), (0, 0, 0, 0)), (2, 3, (.aload_n 0, 1), (0, 0, 0, 0)), (3, 4, (.iload_n 1, 1), (1, 0, 0, 0)), (4, 7, (.invokevirtual 91, 3), (101, 1, 1, 6)), (7, 8, (.i2l, 1), (0, 0, 0, 0)), (8, 9, (.lastore, 1), (0, 0, 0, 0)), (9, 12, (.goto 6, 3), (15, 0, 0, 0)), (12, 13, (.astore_n 3, 1), (3, 0, 0, 0)), (13, 14, (.iconst 1, 1), (0, 0, 0, 0)), (14, 15, (.ireturn, 1), (0, 0, 0, 0)), (15, 16, (.iconst 0, 1), (0, 0, 0, 0)), (16, 17, (.ireturn, 1), (0, 0, 0, 0))], [], [(0, 9, 12, 1)], (1, 9), [])
def mc_L_heightOf : mg_C := ([(0, 1, (.aload_n 2, 1), (2, 0, 0, 0)), (1, 2, (.iconst 0, 1), (0, 0, 0, 0)), (2, 3, (.aload_n 0, 1), (0, 0, 0, 0)), (3, 4, (.iload_n 1, 1), (1, 0, 0, 0)), (4, 7, (.invokevirtual 94, 3), (102, 1, 1, 6)), (7, 8, (.i2l, 1), (0, 0, 0, 0)), (8, 9, (.lastore, 1), (0, 0, 0, 0)), (9, 12, (.goto 6, 3), (15, 0, 0, 0)), (12, 13, (.astore_n 3, 1), (3, 0, 0, 0)), (13, 14, (.iconst 1, 1), (0, 0, 0, 0)), (14, 15, (.ireturn, 1), (0, 0, 0, 0)), (15, 16, (.iconst 0, 1), (0, 0, 0, 0)), (16, 17, (.ireturn, 1), (0, 0, 0, 0))], [], [(0, 9, 12, 1)], (1, 9), [])
def mc_L_setWidth : mg_C := ([(0, 1, (.aload_n 3, 1), (3, 0, 0, 0)), (1, 2, (.iconst 0, 1), (0, 0, 0, 0)), (2, 3, (.aload_n 0, 1), (0, 0, 0, 0)), (3, 4, (.iload_n 1, 1), (1, 0, 0, 0)), (4, 5, (.iload_n 2, 1), (2, 0, 0, 0)), (5, 8, (.invokevirtual 97, 3), (103, 2, 2, 6)), (8, 9, (.i2l, 1), (0, 0, 0, 0)), (9, 10, (.lastore, 1), (0, 0, 0, 0)), (10, 13, (.goto 11, 3), (21, 0, 0, 0)), (13, 15, (.astore 4, 2), (4, 0, 0, 0)), (15, 16, (.iconst 1, 1), (0, 0, 0, 0)), (16, 17, (.ireturn, 1), (0, 0, 0, 0)), (17, 19, (.astore 4, 2), (4, 0, 0, 0)), (19, 20, (.iconst 2, 1), (0, 0, 0, 0)), (20, 21, (.ireturn, 1), (0, 0, 0, 0)), (21, 22, (.iconst 0, 1), (0, 0, 0, 0)), (22, 23, (.ireturn, 1), (0, 0, 0, 0))], [], [(0, 10, 13, 1), (0, 10, 17, 3)], (1, 9), [])
def mc_L_setHeight : mg_C := ([(0, 1, (.aload_n 3, 1), (3, 0, 0, 0)), (1, 2, (.iconst 0, 1), (0, 0, 0, 0)), (2, 3, (.aload_n 0, 1), (0, 0, 0, 0)), (3, 4, (.iload_n 1, 1), (1, 0, 0, 0)), (4, 5, (.iload_n 2, 1), (2, 0, 0, 0)), (5, 8, (.invokevirtual 100, 3), (104, 2, 2, 6)), (8, 9, (.i2l, 1), (0, 0, 0, 0)), (9, 10, (.lastore, 1), (0, 0, 0, 0)), (10, 13, (.goto 11, 3), (21, 0, 0, 0)), (13, 15, (.astore 4, 2), (4, 0, 0, 0)), (15, 16, (.iconst 1, 1), (0, 0, 0, 0)), (16, 17, (.ireturn, 1), (0, 0, 0, 0)), (17, 19, (.astore 4, 2), (4, 0, 0, 0)), (19, 20, (.iconst 2, 1), (0, 0, 0, 0)), (20, 21, (.ireturn, 1), (0, 0, 0, 0)), (21, 22, (.iconst 0, 1), (0, 0, 0, 0)), (22, 23, (.ireturn, 1), (0, 0, 0, 0))], [], [(0, 10, 13, 1), (0, 10, 17, 3)], (1, 9), [])
def mc_L_drag : mg_C := ([(0, 1, (.aload_n 3, 1), (3, 0, 0, 0)), (1, 2, (.iconst 0, 1), (0, 0, 0, 0)), (2, 3, (.aload_n 0, 1), (0, 0, 0, 0)), (3, 4, (.iload_n 1, 1), (1, 0, 0, 0)), (4, 5, (.iload_n 2, 1), (2, 0, 0, 0)), (5, 8, (.invokevirtual 103, 3), (105, 2, 2, 6)), (8, 9, (.i2l, 1), (0, 0, 0, 0)), (9, 10, (.lastore, 1), (0, 0, 0, 0)), (10, 13, (.goto 11, 3), (21, 0, 0, 0)), (13, 15, (.astore 4, 2), (4, 0, 0, 0)), (15, 16, (.iconst 1, 1), (0, 0, 0, 0)), (16, 17, (.ireturn, 1), (0, 0, 0, 0)), (17, 19, (.astore 4, 2), (4, 0, 0, 0)), (19, 20, (.iconst 2, 1), (0, 0, 0, 0)), (20, 21, (.ireturn, 1), (0, 0, 0, 0)), (21, 22, (.iconst 0, 1), (0, 0, 0, 0)), (22, 23, (.ireturn, 1), (0, 0, 0, 0))], [], [(0, 10, 13, 1), (0, 10, 17, 4)], (1, 9), [])
def mc_L_even : mg_C := ([(0, 1, (.aload_n 3, 1), (3, 0, 0, 0)), (1, 2, (.iconst 0, 1), (0, 0, 0, 0)), (2, 3, (.aload_n 0, 1), (0, 0, 0, 0)), (3, 4, (.iload_n 1, 1), (1, 0, 0, 0)), (4, 5, (.iload_n 2, 1), (2, 0, 0, 0)), (5, 8, (.invokevirtual 106, 3), (106, 2, 3, 6)), (8, 9, (.i2l, 1), (0, 0, 0, 0)), (9, 10, (.lastore, 1), (0, 0, 0, 0)), (10, 13, (.goto 11, 3), (21, 0, 0, 0)), (13, 15, (.astore 4, 2), (4, 0, 0, 0)), (15, 16, (.iconst 1, 1), (0, 0, 0, 0)), (16, 17, (.ireturn, 1), (0, 0, 0, 0)), (17, 19, (.astore 4, 2), (4, 0, 0, 0)), (19, 20, (.iconst 2, 1), (0, 0, 0, 0)), (20, 21, (.ireturn, 1), (0, 0, 0, 0)), (21, 22, (.iconst 0, 1), (0, 0, 0, 0)), (22, 23, (.ireturn, 1), (0, 0, 0, 0))], [], [(0, 10, 13, 1), (0, 10, 17, 3)], (1, 9), [])
def mc_L_sizeOf : mg_C := ([(0, 1, (.aload_n 3, 1), (3, 0, 0, 0)), (1, 2, (.iconst 0, 1), (0, 0, 0, 0)), (2, 3, (.aload_n 0, 1), (0, 0, 0, 0)), (3, 4, (.iload_n 1, 1), (1, 0, 0, 0)), (4, 5, (.iload_n 2, 1), (2, 0, 0, 0)), (5, 8, (.invokevirtual 109, 3), (107, 2, 2, 6)), (8, 9, (.i2l, 1), (0, 0, 0, 0)), (9, 10, (.lastore, 1), (0, 0, 0, 0)), (10, 13, (.goto 7, 3), (17, 0, 0, 0)), (13, 15, (.astore 4, 2), (4, 0, 0, 0)), (15, 16, (.iconst 1, 1), (0, 0, 0, 0)), (16, 17, (.ireturn, 1), (0, 0, 0, 0)), (17, 18, (.iconst 0, 1), (0, 0, 0, 0)), (18, 19, (.ireturn, 1), (0, 0, 0, 0))], [], [(0, 10, 13, 1)], (1, 9), [])
def mc_L_cellAt : mg_C := ([(0, 1, (.aload_n 3, 1), (3, 0, 0, 0)), (1, 2, (.iconst 0, 1), (0, 0, 0, 0)), (2, 3, (.aload_n 0, 1), (0, 0, 0, 0)), (3, 4, (.iload_n 1, 1), (1, 0, 0, 0)), (4, 5, (.iload_n 2, 1), (2, 0, 0, 0)), (5, 8, (.invokevirtual 112, 3), (108, 2, 1, 6)), (8, 9, (.i2l, 1), (0, 0, 0, 0)), (9, 10, (.lastore, 1), (0, 0, 0, 0)), (10, 13, (.goto 7, 3), (17, 0, 0, 0)), (13, 15, (.astore 4, 2), (4, 0, 0, 0)), (15, 16, (.iconst 1, 1), (0, 0, 0, 0)), (16, 17, (.ireturn, 1), (0, 0, 0, 0)), (17, 18, (.iconst 0, 1), (0, 0, 0, 0)), (18, 19, (.ireturn, 1), (0, 0, 0, 0))], [], [(0, 10, 13, 5)], (1, 9), [])
def mc_L_takeBack : mg_C := ([(0, 1, (.aload_n 1, 1), (1, 0, 0, 0)), (1, 2, (.iconst 0, 1), (0, 0, 0, 0)), (2, 3, (.aload_n 0, 1), (0, 0, 0, 0)), (3, 6, (.invokevirtual 117, 3), (109, 0, 1, 6)), (6, 9, (.ifCond .eq 7, 3), (13, 0, 0, 0)), (9, 10, (.lconst 1, 1), (1, 0, 0, 0)), (10, 13, (.goto 4, 3), (14, 0, 0, 0)), (13, 14, (.lconst 0, 1), (0, 0, 0, 0)), (14, 15, (.lastore, 1), (0, 0, 0, 0)), (15, 18, (.goto 6, 3), (21, 0, 0, 0)), (18, 19, (.astore_n 2, 1), (2, 0, 0, 0)), (19, 20, (.iconst 1, 1), (0, 0, 0, 0)), (20, 21, (.ireturn, 1), (0, 0, 0, 0)), (21, 22, (.iconst 0, 1), (0, 0, 0, 0)), (22, 23, (.ireturn, 1), (0, 0, 0, 0))], [], [(0, 15, 18, 2)], (1, 9), [])
def mc_L_mean : mg_C := ([(0, 1, (.aload_n 1, 1), (1, 0, 0, 0)), (1, 2, (.iconst 0, 1), (0, 0, 0, 0)), (2, 3, (.aload_n 0, 1), (0, 0, 0, 0)), (3, 6, (.invokevirtual 121, 3), (111, 0, 1, 6)), (6, 7, (.dastore, 1), (0, 0, 0, 0)), (7, 10, (.goto 6, 3), (13, 0, 0, 0)), (10, 11, (.astore_n 2, 1), (2, 0, 0, 0)), (11, 12, (.iconst 1, 1), (0, 0, 0, 0)), (12, 13, (.ireturn, 1), (0, 0, 0, 0)), (13, 14, (.iconst 0, 1), (0, 0, 0, 0)), (14, 15, (.ireturn, 1), (0, 0, 0, 0))], [], [(0, 7, 10, 6)], (1, 9), [])
def ml_L_law_0 : List mg_E := [(0, 3, (.new 8, 3), (6, 0, 0, 0)), (3, 4, (.dup, 1), (0, 0, 0, 0)), (4, 7, (.invokespecial 127, 3), (71, 0, 420, 0)), (7, 8, (.astore_n 1, 1), (1, 0, 0, 0)), (8, 11, (.new 128, 3), (7, 0, 0, 0)), (11, 12, (.dup, 1), (0, 0, 0, 0)), (12, 15, (.invokespecial 130, 3), (123, 0, 20, 0)), (15, 16, (.astore_n 2, 1), (2, 0, 0, 0)), (16, 17, (.iconst 1, 1), (0, 0, 0, 0)), (17, 19, (.newarray .long, 2), (10, 0, 0, 0)), (19, 20, (.astore_n 3, 1), (3, 0, 0, 0)), (20, 21, (.iconst 1, 1), (0, 0, 0, 0)), (21, 23, (.newarray .double, 2), (11, 0, 0, 0)), (23, 25, (.astore 4, 2), (4, 0, 0, 0)), (25, 26, (.iconst 0, 1), (0, 0, 0, 0)), (26, 28, (.istore 5, 2), (5, 0, 0, 0)), (28, 30, (.iload 5, 2), (5, 0, 0, 0)), (30, 31, (.aload_n 0, 1), (0, 0, 0, 0)), (31, 32, (.arraylength, 1), (12, 0, 0, 0)), (32, 33, (.iconst 5, 1), (0, 0, 0, 0)), (33, 34, (.isub, 1), (0, 0, 0, 0)), (34, 37, (.if_icmp .gt 2477, 3), (2511, 0, 0, 0)), (37, 38, (.aload_n 0, 1), (0, 0, 0, 0)), (38, 40, (.iload 5, 2), (5, 0, 0, 0)), (40, 41, (.iaload, 1), (12, 0, 0, 0)), (41, 43, (.bipush 63, 2), (0, 0, 0, 0)), (43, 44, (.iand, 1), (0, 0, 0, 0)), (44, 228, (.tableswitch 2461 0 41 #[184, 197, 210, 223, 236, 292, 348, 404, 460, 528, 596, 664, 732, 800, 868, 936, 1016, 1072, 1164, 1222, 1235, 1327, 1371, 1453, 1497, 1510, 1602, 1658, 1671, 1755, 1811, 1867, 1935, 2003, 2071, 2139, 2207, 2275, 2326, 2340, 2405, 2448], 184), (0, 0, 0, 0)), (228, 229, (.aload_n 1, 1), (1, 0, 0, 0)), (229, 232, (.invokevirtual 131, 3), (72, 0, 0, 6)), (232, 233, (.aload_n 2, 1), (2, 0, 0, 0)), (233, 236, (.invokevirtual 134, 3), (140, 0, 0, 7)), (236, 239, (.if_icmp .eq 2269, 3), (2505, 0, 0, 0)), (239, 240, (.iconst 0, 1), (0, 0, 0, 0)), (240, 241, (.ireturn, 1), (0, 0, 0, 0)), (241, 242, (.aload_n 1, 1), (1, 0, 0, 0)), (242, 245, (.invokevirtual 135, 3), (73, 0, 0, 6)), (245, 246, (.aload_n 2, 1), (2, 0, 0, 0)), (246, 249, (.invokevirtual 138, 3), (141, 0, 0, 7)), (249, 252, (.if_icmp .eq 2256, 3), (2505, 0, 0, 0)), (252, 253, (.iconst 0, 1), (0, 0, 0, 0)), (253, 254, (.ireturn, 1), (0, 0, 0, 0)), (254, 255, (.aload_n 1, 1), (1, 0, 0, 0)), (255, 258, (.invokevirtual 139, 3), (74, 0, 0, 6)), (258, 259, (.aload_n 2, 1), (2, 0, 0, 0)), (259, 262, (.invokevirtual 142, 3), (142, 0, 0, 7)), (262, 265, (.if_icmp .eq 2243, 3), (2505, 0, 0, 0)), (265, 266, (.iconst 0, 1), (0, 0, 0, 0)), (266, 267, (.ireturn, 1), (0, 0, 0, 0)), (267, 268, (.aload_n 1, 1), (1, 0, 0, 0)), (268, 271, (.invokevirtual 143, 3), (75, 0, 0, 6)), (271, 272, (.aload_n 2, 1), (2, 0, 0, 0)), (272, 275, (.invokevirtual 146, 3), (143, 0, 0, 7)), (275, 278, (.if_icmp .eq 2230, 3), (2505, 0, 0, 0)), (278, 279, (.iconst 0, 1), (0, 0, 0, 0)), (279, 280, (.ireturn, 1), (0, 0, 0, 0)), (280, 281, (.aload_n 1, 1), (1, 0, 0, 0)), (281, 282, (.aload_n 0, 1), (0, 0, 0, 0)), (282, 284, (.iload 5, 2), (5, 0, 0, 0)), (284, 285, (.iconst 1, 1), (0, 0, 0, 0)), (285, 286, (.iadd, 1), (0, 0, 0, 0)), (286, 287, (.iaload, 1), (12, 0, 0, 0)), (287, 288, (.aload_n 3, 1), (3, 0, 0, 0)), (288, 291, (.invokestatic 147, 3), (207, 3, 1, 0)), (291, 293, (.istore 6, 2), (6, 0, 0, 0)), (293, 294, (.aload_n 2, 1), (2, 0, 0, 0)), (294, 295, (.aload_n 0, 1), (0, 0, 0, 0)), (295, 297, (.iload 5, 2), (5, 0, 0, 0)), (297, 298, (.iconst 1, 1), (0, 0, 0, 0)), (298, 299, (.iadd, 1), (0, 0, 0, 0)), (299, 300, (.iaload, 1), (12, 0, 0, 0)), (300, 303, (.invokevirtual 152, 3), (146, 1, 0, 7)), (303, 305, (.istore 7, 2), (7, 0, 0, 0)), (305, 306, (.aload_n 2, 1), (2, 0, 0, 0)), (306, 309, (.invokevirtual 153, 3), (124, 0, 0, 7)), (309, 311, (.iload 6, 2), (6, 0, 0, 0)), (311, 314, (.if_icmp .eq 5, 3), (316, 0, 0, 0)), (314, 315, (.iconst 0, 1), (0, 0, 0, 0)), (315, 316, (.ireturn, 1), (0, 0, 0, 0)), (316, 318, (.iload 6, 2), (6, 0, 0, 0)), (318, 321, (.ifCond .ne 15, 3), (333, 0, 0, 0)), (321, 322, (.aload_n 3, 1), (3, 0, 0, 0)), (322, 323, (.iconst 0, 1), (0, 0, 0, 0)), (323, 324, (.laload, 1), (0, 0, 0, 0)), (324, 326, (.iload 7, 2), (7, 0, 0, 0)), (326, 327, (.i2l, 1), (0, 0, 0, 0)), (327, 328, (.lcmp, 1), (0, 0, 0, 0)), (328, 331, (.ifCond .eq 5, 3), (333, 0, 0, 0)), (331, 332, (.iconst 0, 1), (0, 0, 0, 0)), (332, 333, (.ireturn, 1), (0, 0, 0, 0)), (333, 336, (.goto 2172, 3), (2505, 0, 0, 0)), (336, 337, (.aload_n 1, 1), (1, 0, 0, 0)), (337, 338, (.aload_n 0, 1), (0, 0, 0, 0)), (338, 340, (.iload 5, 2), (5, 0, 0, 0)), (340, 341, (.iconst 1, 1), (0, 0, 0, 0)), (341, 342, (.iadd, 1), (0, 0, 0, 0)), (342, 343, (.iaload, 1), (12, 0, 0, 0)), (343, 344, (.aload_n 3, 1), (3, 0, 0, 0)), (344, 347, (.invokestatic 156, 3), (208, 3, 1, 0)), (347, 349, (.istore 6, 2), (6, 0, 0, 0))]
def ml_L_law_1 : List mg_E := [(349, 350, (.aload_n 2, 1), (2, 0, 0, 0)), (350, 351, (.aload_n 0, 1), (0, 0, 0, 0)), (351, 353, (.iload 5, 2), (5, 0, 0, 0)), (353, 354, (.iconst 1, 1), (0, 0, 0, 0)), (354, 355, (.iadd, 1), (0, 0, 0, 0)), (355, 356, (.iaload, 1), (12, 0, 0, 0)), (356, 359, (.invokevirtual 158, 3), (147, 1, 0, 7)), (359, 361, (.istore 7, 2), (7, 0, 0, 0)), (361, 362, (.aload_n 2, 1), (2, 0, 0, 0)), (362, 365, (.invokevirtual 153, 3), (124, 0, 0, 7)), (365, 367, (.iload 6, 2), (6, 0, 0, 0)), (367, 370, (.if_icmp .eq 5, 3), (372, 0, 0, 0)), (370, 371, (.iconst 0, 1), (0, 0, 0, 0)), (371, 372, (.ireturn, 1), (0, 0, 0, 0)), (372, 374, (.iload 6, 2), (6, 0, 0, 0)), (374, 377, (.ifCond .ne 15, 3), (389, 0, 0, 0)), (377, 378, (.aload_n 3, 1), (3, 0, 0, 0)), (378, 379, (.iconst 0, 1), (0, 0, 0, 0)), (379, 380, (.laload, 1), (0, 0, 0, 0)), (380, 382, (.iload 7, 2), (7, 0, 0, 0)), (382, 383, (.i2l, 1), (0, 0, 0, 0)), (383, 384, (.lcmp, 1), (0, 0, 0, 0)), (384, 387, (.ifCond .eq 5, 3), (389, 0, 0, 0)), (387, 388, (.iconst 0, 1), (0, 0, 0, 0)), (388, 389, (.ireturn, 1), (0, 0, 0, 0)), (389, 392, (.goto 2116, 3), (2505, 0, 0, 0)), (392, 393, (.aload_n 1, 1), (1, 0, 0, 0)), (393, 394, (.aload_n 0, 1), (0, 0, 0, 0)), (394, 396, (.iload 5, 2), (5, 0, 0, 0)), (396, 397, (.iconst 1, 1), (0, 0, 0, 0)), (397, 398, (.iadd, 1), (0, 0, 0, 0)), (398, 399, (.iaload, 1), (12, 0, 0, 0)), (399, 400, (.aload_n 3, 1), (3, 0, 0, 0)), (400, 403, (.invokestatic 159, 3), (209, 3, 2, 0)), (403, 405, (.istore 6, 2), (6, 0, 0, 0)), (405, 406, (.aload_n 2, 1), (2, 0, 0, 0)), (406, 407, (.aload_n 0, 1), (0, 0, 0, 0)), (407, 409, (.iload 5, 2), (5, 0, 0, 0)), (409, 410, (.iconst 1, 1), (0, 0, 0, 0)), (410, 411, (.iadd, 1), (0, 0, 0, 0)), (411, 412, (.iaload, 1), (12, 0, 0, 0)), (412, 415, (.invokevirtual 161, 3), (148, 1, 0, 7)), (415, 417, (.istore 7, 2), (7, 0, 0, 0)), (417, 418, (.aload_n 2, 1), (2, 0, 0, 0)), (418, 421, (.invokevirtual 153, 3), (124, 0, 0, 7)), (421, 423, (.iload 6, 2), (6, 0, 0, 0)), (423, 426, (.if_icmp .eq 5, 3), (428, 0, 0, 0)), (426, 427, (.iconst 0, 1), (0, 0, 0, 0)), (427, 428, (.ireturn, 1), (0, 0, 0, 0)), (428, 430, (.iload 6, 2), (6, 0, 0, 0)), (430, 433, (.ifCond .ne 15, 3), (445, 0, 0, 0)), (433, 434, (.aload_n 3, 1), (3, 0, 0, 0)), (434, 435, (.iconst 0, 1), (0, 0, 0, 0)), (435, 436, (.laload, 1), (0, 0, 0, 0)), (436, 438, (.iload 7, 2), (7, 0, 0, 0)), (438, 439, (.i2l, 1), (0, 0, 0, 0)), (439, 440, (.lcmp, 1), (0, 0, 0, 0)), (440, 443, (.ifCond .eq 5, 3), (445, 0, 0, 0)), (443, 444, (.iconst 0, 1), (0, 0, 0, 0)), (444, 445, (.ireturn, 1), (0, 0, 0, 0)), (445, 448, (.goto 2060, 3), (2505, 0, 0, 0)), (448, 449, (.aload_n 1, 1), (1, 0, 0, 0)), (449, 450, (.aload_n 0, 1), (0, 0, 0, 0)), (450, 452, (.iload 5, 2), (5, 0, 0, 0)), (452, 453, (.iconst 1, 1), (0, 0, 0, 0)), (453, 454, (.iadd, 1), (0, 0, 0, 0)), (454, 455, (.iaload, 1), (12, 0, 0, 0)), (455, 456, (.aload_n 3, 1), (3, 0, 0, 0)), (456, 459, (.invokestatic 162, 3), (210, 3, 2, 0)), (459, 461, (.istore 6, 2), (6, 0, 0, 0)), (461, 462, (.aload_n 2, 1), (2, 0, 0, 0)), (462, 463, (.aload_n 0, 1), (0, 0, 0, 0)), (463, 465, (.iload 5, 2), (5, 0, 0, 0)), (465, 466, (.iconst 1, 1), (0, 0, 0, 0)), (466, 467, (.iadd, 1), (0, 0, 0, 0)), (467, 468, (.iaload, 1), (12, 0, 0, 0)), (468, 471, (.invokevirtual 164, 3), (149, 1, 0, 7)), (471, 473, (.istore 7, 2), (7, 0, 0, 0)), (473, 474, (.aload_n 2, 1), (2, 0, 0, 0)), (474, 477, (.invokevirtual 153, 3), (124, 0, 0, 7)), (477, 479, (.iload 6, 2), (6, 0, 0, 0)), (479, 482, (.if_icmp .eq 5, 3), (484, 0, 0, 0)), (482, 483, (.iconst 0, 1), (0, 0, 0, 0)), (483, 484, (.ireturn, 1), (0, 0, 0, 0)), (484, 486, (.iload 6, 2), (6, 0, 0, 0)), (486, 489, (.ifCond .ne 15, 3), (501, 0, 0, 0)), (489, 490, (.aload_n 3, 1), (3, 0, 0, 0)), (490, 491, (.iconst 0, 1), (0, 0, 0, 0)), (491, 492, (.laload, 1), (0, 0, 0, 0)), (492, 494, (.iload 7, 2), (7, 0, 0, 0)), (494, 495, (.i2l, 1), (0, 0, 0, 0)), (495, 496, (.lcmp, 1), (0, 0, 0, 0)), (496, 499, (.ifCond .eq 5, 3), (501, 0, 0, 0)), (499, 500, (.iconst 0, 1), (0, 0, 0, 0)), (500, 501, (.ireturn, 1), (0, 0, 0, 0)), (501, 504, (.goto 2004, 3), (2505, 0, 0, 0)), (504, 505, (.aload_n 1, 1), (1, 0, 0, 0)), (505, 506, (.aload_n 0, 1), (0, 0, 0, 0)), (506, 508, (.iload 5, 2), (5, 0, 0, 0)), (508, 509, (.iconst 1, 1), (0, 0, 0, 0))]
def ml_L_law_2 : List mg_E := [(509, 510, (.iadd, 1), (0, 0, 0, 0)), (510, 511, (.iaload, 1), (12, 0, 0, 0)), (511, 512, (.aload_n 0, 1), (0, 0, 0, 0)), (512, 514, (.iload 5, 2), (5, 0, 0, 0)), (514, 515, (.iconst 2, 1), (0, 0, 0, 0)), (515, 516, (.iadd, 1), (0, 0, 0, 0)), (516, 517, (.iaload, 1), (12, 0, 0, 0)), (517, 518, (.aload_n 3, 1), (3, 0, 0, 0)), (518, 521, (.invokestatic 165, 3), (211, 4, 3, 0)), (521, 523, (.istore 6, 2), (6, 0, 0, 0)), (523, 524, (.aload_n 2, 1), (2, 0, 0, 0)), (524, 525, (.aload_n 0, 1), (0, 0, 0, 0)), (525, 527, (.iload 5, 2), (5, 0, 0, 0)), (527, 528, (.iconst 1, 1), (0, 0, 0, 0)), (528, 529, (.iadd, 1), (0, 0, 0, 0)), (529, 530, (.iaload, 1), (12, 0, 0, 0)), (530, 531, (.aload_n 0, 1), (0, 0, 0, 0)), (531, 533, (.iload 5, 2), (5, 0, 0, 0)), (533, 534, (.iconst 2, 1), (0, 0, 0, 0)), (534, 535, (.iadd, 1), (0, 0, 0, 0)), (535, 536, (.iaload, 1), (12, 0, 0, 0)), (536, 539, (.invokevirtual 168, 3), (152, 2, 0, 7)), (539, 541, (.istore 7, 2), (7, 0, 0, 0)), (541, 542, (.aload_n 2, 1), (2, 0, 0, 0)), (542, 545, (.invokevirtual 153, 3), (124, 0, 0, 7)), (545, 547, (.iload 6, 2), (6, 0, 0, 0)), (547, 550, (.if_icmp .eq 5, 3), (552, 0, 0, 0)), (550, 551, (.iconst 0, 1), (0, 0, 0, 0)), (551, 552, (.ireturn, 1), (0, 0, 0, 0)), (552, 554, (.iload 6, 2), (6, 0, 0, 0)), (554, 557, (.ifCond .ne 15, 3), (569, 0, 0, 0)), (557, 558, (.aload_n 3, 1), (3, 0, 0, 0)), (558, 559, (.iconst 0, 1), (0, 0, 0, 0)), (559, 560, (.laload, 1), (0, 0, 0, 0)), (560, 562, (.iload 7, 2), (7, 0, 0, 0)), (562, 563, (.i2l, 1), (0, 0, 0, 0)), (563, 564, (.lcmp, 1), (0, 0, 0, 0)), (564, 567, (.ifCond .eq 5, 3), (569, 0, 0, 0)), (567, 568, (.iconst 0, 1), (0, 0, 0, 0)), (568, 569, (.ireturn, 1), (0, 0, 0, 0)), (569, 572, (.goto 1936, 3), (2505, 0, 0, 0)), (572, 573, (.aload_n 1, 1), (1, 0, 0, 0)), (573, 574, (.aload_n 0, 1), (0, 0, 0, 0)), (574, 576, (.iload 5, 2), (5, 0, 0, 0)), (576, 577, (.iconst 1, 1), (0, 0, 0, 0)), (577, 578, (.iadd, 1), (0, 0, 0, 0)), (578, 579, (.iaload, 1), (12, 0, 0, 0)), (579, 580, (.aload_n 0, 1), (0, 0, 0, 0)), (580, 582, (.iload 5, 2), (5, 0, 0, 0)), (582, 583, (.iconst 2, 1), (0, 0, 0, 0)), (583, 584, (.iadd, 1), (0, 0, 0, 0)), (584, 585, (.iaload, 1), (12, 0, 0, 0)), (585, 586, (.aload_n 3, 1), (3, 0, 0, 0)), (586, 589, (.invokestatic 169, 3), (212, 4, 2, 0)), (589, 591, (.istore 6, 2), (6, 0, 0, 0)), (591, 592, (.aload_n 2, 1), (2, 0, 0, 0)), (592, 593, (.aload_n 0, 1), (0, 0, 0, 0)), (593, 595, (.iload 5, 2), (5, 0, 0, 0)), (595, 596, (.iconst 1, 1), (0, 0, 0, 0)), (596, 597, (.iadd, 1), (0, 0, 0, 0)), (597, 598, (.iaload, 1), (12, 0, 0, 0)), (598, 599, (.aload_n 0, 1), (0, 0, 0, 0)), (599, 601, (.iload 5, 2), (5, 0, 0, 0)), (601, 602, (.iconst 2, 1), (0, 0, 0, 0)), (602, 603, (.iadd, 1), (0, 0, 0, 0)), (603, 604, (.iaload, 1), (12, 0, 0, 0)), (604, 607, (.invokevirtual 171, 3), (158, 2, 0, 7)), (607, 609, (.istore 7, 2), (7, 0, 0, 0)), (609, 610, (.aload_n 2, 1), (2, 0, 0, 0)), (610, 613, (.invokevirtual 153, 3), (124, 0, 0, 7)), (613, 615, (.iload 6, 2), (6, 0, 0, 0)), (615, 618, (.if_icmp .eq 5, 3), (620, 0, 0, 0)), (618, 619, (.iconst 0, 1), (0, 0, 0, 0)), (619, 620, (.ireturn, 1), (0, 0, 0, 0)), (620, 622, (.iload 6, 2), (6, 0, 0, 0)), (622, 625, (.ifCond .ne 15, 3), (637, 0, 0, 0)), (625, 626, (.aload_n 3, 1), (3, 0, 0, 0)), (626, 627, (.iconst 0, 1), (0, 0, 0, 0)), (627, 628, (.laload, 1), (0, 0, 0, 0)), (628, 630, (.iload 7, 2), (7, 0, 0, 0)), (630, 631, (.i2l, 1), (0, 0, 0, 0)), (631, 632, (.lcmp, 1), (0, 0, 0, 0)), (632, 635, (.ifCond .eq 5, 3), (637, 0, 0, 0)), (635, 636, (.iconst 0, 1), (0, 0, 0, 0)), (636, 637, (.ireturn, 1), (0, 0, 0, 0)), (637, 640, (.goto 1868, 3), (2505, 0, 0, 0)), (640, 641, (.aload_n 1, 1), (1, 0, 0, 0)), (641, 642, (.aload_n 0, 1), (0, 0, 0, 0)), (642, 644, (.iload 5, 2), (5, 0, 0, 0)), (644, 645, (.iconst 1, 1), (0, 0, 0, 0)), (645, 646, (.iadd, 1), (0, 0, 0, 0)), (646, 647, (.iaload, 1), (12, 0, 0, 0)), (647, 648, (.aload_n 0, 1), (0, 0, 0, 0)), (648, 650, (.iload 5, 2), (5, 0, 0, 0)), (650, 651, (.iconst 2, 1), (0, 0, 0, 0)), (651, 652, (.iadd, 1), (0, 0, 0, 0)), (652, 653, (.iaload, 1), (12, 0, 0, 0)), (653, 654, (.aload_n 3, 1), (3, 0, 0, 0)), (654, 657, (.invokestatic 172, 3), (213, 4, 2, 0)), (657, 659, (.istore 6, 2), (6, 0, 0, 0))]
def ml_L_law_3 : List mg_E := [(659, 660, (.aload_n 2, 1), (2, 0, 0, 0)), (660, 661, (.aload_n 0, 1), (0, 0, 0, 0)), (661, 663, (.iload 5, 2), (5, 0, 0, 0)), (663, 664, (.iconst 1, 1), (0, 0, 0, 0)), (664, 665, (.iadd, 1), (0, 0, 0, 0)), (665, 666, (.iaload, 1), (12, 0, 0, 0)), (666, 667, (.aload_n 0, 1), (0, 0, 0, 0)), (667, 669, (.iload 5, 2), (5, 0, 0, 0)), (669, 670, (.iconst 2, 1), (0, 0, 0, 0)), (670, 671, (.iadd, 1), (0, 0, 0, 0)), (671, 672, (.iaload, 1), (12, 0, 0, 0)), (672, 675, (.invokevirtual 174, 3), (159, 2, 0, 7)), (675, 677, (.istore 7, 2), (7, 0, 0, 0)), (677, 678, (.aload_n 2, 1), (2, 0, 0, 0)), (678, 681, (.invokevirtual 153, 3), (124, 0, 0, 7)), (681, 683, (.iload 6, 2), (6, 0, 0, 0)), (683, 686, (.if_icmp .eq 5, 3), (688, 0, 0, 0)), (686, 687, (.iconst 0, 1), (0, 0, 0, 0)), (687, 688, (.ireturn, 1), (0, 0, 0, 0)), (688, 690, (.iload 6, 2), (6, 0, 0, 0)), (690, 693, (.ifCond .ne 15, 3), (705, 0, 0, 0)), (693, 694, (.aload_n 3, 1), (3, 0, 0, 0)), (694, 695, (.iconst 0, 1), (0, 0, 0, 0)), (695, 696, (.laload, 1), (0, 0, 0, 0)), (696, 698, (.iload 7, 2), (7, 0, 0, 0)), (698, 699, (.i2l, 1), (0, 0, 0, 0)), (699, 700, (.lcmp, 1), (0, 0, 0, 0)), (700, 703, (.ifCond .eq 5, 3), (705, 0, 0, 0)), (703, 704, (.iconst 0, 1), (0, 0, 0, 0)), (704, 705, (.ireturn, 1), (0, 0, 0, 0)), (705, 708, (.goto 1800, 3), (2505, 0, 0, 0)), (708, 709, (.aload_n 1, 1), (1, 0, 0, 0)), (709, 710, (.aload_n 0, 1), (0, 0, 0, 0)), (710, 712, (.iload 5, 2), (5, 0, 0, 0)), (712, 713, (.iconst 1, 1), (0, 0, 0, 0)), (713, 714, (.iadd, 1), (0, 0, 0, 0)), (714, 715, (.iaload, 1), (12, 0, 0, 0)), (715, 716, (.aload_n 0, 1), (0, 0, 0, 0)), (716, 718, (.iload 5, 2), (5, 0, 0, 0)), (718, 719, (.iconst 2, 1), (0, 0, 0, 0)), (719, 720, (.iadd, 1), (0, 0, 0, 0)), (720, 721, (.iaload, 1), (12, 0, 0, 0)), (721, 722, (.aload_n 3, 1), (3, 0, 0, 0)), (722, 725, (.invokestatic 175, 3), (214, 4, 2, 0)), (725, 727, (.istore 6, 2), (6, 0, 0, 0)), (727, 728, (.aload_n 2, 1), (2, 0, 0, 0)), (728, 729, (.aload_n 0, 1), (0, 0, 0, 0)), (729, 731, (.iload 5, 2), (5, 0, 0, 0)), (731, 732, (.iconst 1, 1), (0, 0, 0, 0)), (732, 733, (.iadd, 1), (0, 0, 0, 0)), (733, 734, (.iaload, 1), (12, 0, 0, 0)), (734, 735, (.aload_n 0, 1), (0, 0, 0, 0)), (735, 737, (.iload 5, 2), (5, 0, 0, 0)), (737, 738, (.iconst 2, 1), (0, 0, 0, 0)), (738, 739, (.iadd, 1), (0, 0, 0, 0)), (739, 740, (.iaload, 1), (12, 0, 0, 0)), (740, 743, (.invokevirtual 177, 3), (160, 2, 0, 7)), (743, 745, (.istore 7, 2), (7, 0, 0, 0)), (745, 746, (.aload_n 2, 1), (2, 0, 0, 0)), (746, 749, (.invokevirtual 153, 3), (124, 0, 0, 7)), (749, 751, (.iload 6, 2), (6, 0, 0, 0)), (751, 754, (.if_icmp .eq 5, 3), (756, 0, 0, 0)), (754, 755, (.iconst 0, 1), (0, 0, 0, 0)), (755, 756, (.ireturn, 1), (0, 0, 0, 0)), (756, 758, (.iload 6, 2), (6, 0, 0, 0)), (758, 761, (.ifCond .ne 15, 3), (773, 0, 0, 0)), (761, 762, (.aload_n 3, 1), (3, 0, 0, 0)), (762, 763, (.iconst 0, 1), (0, 0, 0, 0)), (763, 764, (.laload, 1), (0, 0, 0, 0)), (764, 766, (.iload 7, 2), (7, 0, 0, 0)), (766, 767, (.i2l, 1), (0, 0, 0, 0)), (767, 768, (.lcmp, 1), (0, 0, 0, 0)), (768, 771, (.ifCond .eq 5, 3), (773, 0, 0, 0)), (771, 772, (.iconst 0, 1), (0, 0, 0, 0)), (772, 773, (.ireturn, 1), (0, 0, 0, 0)), (773, 776, (.goto 1732, 3), (2505, 0, 0, 0)), (776, 777, (.aload_n 1, 1), (1, 0, 0, 0)), (777, 778, (.aload_n 0, 1), (0, 0, 0, 0)), (778, 780, (.iload 5, 2), (5, 0, 0, 0)), (780, 781, (.iconst 1, 1), (0, 0, 0, 0)), (781, 782, (.iadd, 1), (0, 0, 0, 0)), (782, 783, (.iaload, 1), (12, 0, 0, 0)), (783, 784, (.aload_n 0, 1), (0, 0, 0, 0)), (784, 786, (.iload 5, 2), (5, 0, 0, 0)), (786, 787, (.iconst 2, 1), (0, 0, 0, 0)), (787, 788, (.iadd, 1), (0, 0, 0, 0)), (788, 789, (.iaload, 1), (12, 0, 0, 0)), (789, 790, (.aload_n 3, 1), (3, 0, 0, 0)), (790, 793, (.invokestatic 178, 3), (215, 4, 2, 0)), (793, 795, (.istore 6, 2), (6, 0, 0, 0)), (795, 796, (.aload_n 2, 1), (2, 0, 0, 0)), (796, 797, (.aload_n 0, 1), (0, 0, 0, 0)), (797, 799, (.iload 5, 2), (5, 0, 0, 0)), (799, 800, (.iconst 1, 1), (0, 0, 0, 0)), (800, 801, (.iadd, 1), (0, 0, 0, 0)), (801, 802, (.iaload, 1), (12, 0, 0, 0)), (802, 803, (.aload_n 0, 1), (0, 0, 0, 0)), (803, 805, (.iload 5, 2), (5, 0, 0, 0)), (805, 806, (.iconst 2, 1), (0, 0, 0, 0)), (806, 807, (.iadd, 1), (0, 0, 0, 0))]
def ml_L_law_4 : List mg_E := [(807, 808, (.iaload, 1), (12, 0, 0, 0)), (808, 811, (.invokevirtual 180, 3), (161, 2, 0, 7)), (811, 813, (.istore 7, 2), (7, 0, 0, 0)), (813, 814, (.aload_n 2, 1), (2, 0, 0, 0)), (814, 817, (.invokevirtual 153, 3), (124, 0, 0, 7)), (817, 819, (.iload 6, 2), (6, 0, 0, 0)), (819, 822, (.if_icmp .eq 5, 3), (824, 0, 0, 0)), (822, 823, (.iconst 0, 1), (0, 0, 0, 0)), (823, 824, (.ireturn, 1), (0, 0, 0, 0)), (824, 826, (.iload 6, 2), (6, 0, 0, 0)), (826, 829, (.ifCond .ne 15, 3), (841, 0, 0, 0)), (829, 830, (.aload_n 3, 1), (3, 0, 0, 0)), (830, 831, (.iconst 0, 1), (0, 0, 0, 0)), (831, 832, (.laload, 1), (0, 0, 0, 0)), (832, 834, (.iload 7, 2), (7, 0, 0, 0)), (834, 835, (.i2l, 1), (0, 0, 0, 0)), (835, 836, (.lcmp, 1), (0, 0, 0, 0)), (836, 839, (.ifCond .eq 5, 3), (841, 0, 0, 0)), (839, 840, (.iconst 0, 1), (0, 0, 0, 0)), (840, 841, (.ireturn, 1), (0, 0, 0, 0)), (841, 844, (.goto 1664, 3), (2505, 0, 0, 0)), (844, 845, (.aload_n 1, 1), (1, 0, 0, 0)), (845, 846, (.aload_n 0, 1), (0, 0, 0, 0)), (846, 848, (.iload 5, 2), (5, 0, 0, 0)), (848, 849, (.iconst 1, 1), (0, 0, 0, 0)), (849, 850, (.iadd, 1), (0, 0, 0, 0)), (850, 851, (.iaload, 1), (12, 0, 0, 0)), (851, 852, (.aload_n 0, 1), (0, 0, 0, 0)), (852, 854, (.iload 5, 2), (5, 0, 0, 0)), (854, 855, (.iconst 2, 1), (0, 0, 0, 0)), (855, 856, (.iadd, 1), (0, 0, 0, 0)), (856, 857, (.iaload, 1), (12, 0, 0, 0)), (857, 858, (.aload_n 3, 1), (3, 0, 0, 0)), (858, 861, (.invokestatic 181, 3), (216, 4, 2, 0)), (861, 863, (.istore 6, 2), (6, 0, 0, 0)), (863, 864, (.aload_n 2, 1), (2, 0, 0, 0)), (864, 865, (.aload_n 0, 1), (0, 0, 0, 0)), (865, 867, (.iload 5, 2), (5, 0, 0, 0)), (867, 868, (.iconst 1, 1), (0, 0, 0, 0)), (868, 869, (.iadd, 1), (0, 0, 0, 0)), (869, 870, (.iaload, 1), (12, 0, 0, 0)), (870, 871, (.aload_n 0, 1), (0, 0, 0, 0)), (871, 873, (.iload 5, 2), (5, 0, 0, 0)), (873, 874, (.iconst 2, 1), (0, 0, 0, 0)), (874, 875, (.iadd, 1), (0, 0, 0, 0)), (875, 876, (.iaload, 1), (12, 0, 0, 0)), (876, 879, (.invokevirtual 183, 3), (162, 2, 0, 7)), (879, 881, (.istore 7, 2), (7, 0, 0, 0)), (881, 882, (.aload_n 2, 1), (2, 0, 0, 0)), (882, 885, (.invokevirtual 153, 3), (124, 0, 0, 7)), (885, 887, (.iload 6, 2), (6, 0, 0, 0)), (887, 890, (.if_icmp .eq 5, 3), (892, 0, 0, 0)), (890, 891, (.iconst 0, 1), (0, 0, 0, 0)), (891, 892, (.ireturn, 1), (0, 0, 0, 0)), (892, 894, (.iload 6, 2), (6, 0, 0, 0)), (894, 897, (.ifCond .ne 15, 3), (909, 0, 0, 0)), (897, 898, (.aload_n 3, 1), (3, 0, 0, 0)), (898, 899, (.iconst 0, 1), (0, 0, 0, 0)), (899, 900, (.laload, 1), (0, 0, 0, 0)), (900, 902, (.iload 7, 2), (7, 0, 0, 0)), (902, 903, (.i2l, 1), (0, 0, 0, 0)), (903, 904, (.lcmp, 1), (0, 0, 0, 0)), (904, 907, (.ifCond .eq 5, 3), (909, 0, 0, 0)), (907, 908, (.iconst 0, 1), (0, 0, 0, 0)), (908, 909, (.ireturn, 1), (0, 0, 0, 0)), (909, 912, (.goto 1596, 3), (2505, 0, 0, 0)), (912, 913, (.aload_n 1, 1), (1, 0, 0, 0)), (913, 914, (.aload_n 0, 1), (0, 0, 0, 0)), (914, 916, (.iload 5, 2), (5, 0, 0, 0)), (916, 917, (.iconst 1, 1), (0, 0, 0, 0)), (917, 918, (.iadd, 1), (0, 0, 0, 0)), (918, 919, (.iaload, 1), (12, 0, 0, 0)), (919, 920, (.aload_n 0, 1), (0, 0, 0, 0)), (920, 922, (.iload 5, 2), (5, 0, 0, 0)), (922, 923, (.iconst 2, 1), (0, 0, 0, 0)), (923, 924, (.iadd, 1), (0, 0, 0, 0)), (924, 925, (.iaload, 1), (12, 0, 0, 0)), (925, 926, (.aload_n 3, 1), (3, 0, 0, 0)), (926, 929, (.invokestatic 184, 3), (217, 4, 2, 0)), (929, 931, (.istore 6, 2), (6, 0, 0, 0)), (931, 932, (.aload_n 2, 1), (2, 0, 0, 0)), (932, 933, (.aload_n 0, 1), (0, 0, 0, 0)), (933, 935, (.iload 5, 2), (5, 0, 0, 0)), (935, 936, (.iconst 1, 1), (0, 0, 0, 0)), (936, 937, (.iadd, 1), (0, 0, 0, 0)), (937, 938, (.iaload, 1), (12, 0, 0, 0)), (938, 939, (.aload_n 0, 1), (0, 0, 0, 0)), (939, 941, (.iload 5, 2), (5, 0, 0, 0)), (941, 942, (.iconst 2, 1), (0, 0, 0, 0)), (942, 943, (.iadd, 1), (0, 0, 0, 0)), (943, 944, (.iaload, 1), (12, 0, 0, 0)), (944, 947, (.invokevirtual 186, 3), (163, 2, 0, 7)), (947, 949, (.istore 7, 2), (7, 0, 0, 0)), (949, 950, (.aload_n 2, 1), (2, 0, 0, 0)), (950, 953, (.invokevirtual 153, 3), (124, 0, 0, 7)), (953, 955, (.iload 6, 2), (6, 0, 0, 0)), (955, 958, (.if_icmp .eq 5, 3), (960, 0, 0, 0)), (958, 959, (.iconst 0, 1), (0, 0, 0, 0)), (959, 960, (.ireturn, 1), (0, 0, 0, 0)), (960, 962, (.iload 6, 2), (6, 0, 0, 0))]
def ml_L_law_5 : List mg_E := [(962, 965, (.ifCond .ne 15, 3), (977, 0, 0, 0)), (965, 966, (.aload_n 3, 1), (3, 0, 0, 0)), (966, 967, (.iconst 0, 1), (0, 0, 0, 0)), (967, 968, (.laload, 1), (0, 0, 0, 0)), (968, 970, (.iload 7, 2), (7, 0, 0, 0)), (970, 971, (.i2l, 1), (0, 0, 0, 0)), (971, 972, (.lcmp, 1), (0, 0, 0, 0)), (972, 975, (.ifCond .eq 5, 3), (977, 0, 0, 0)), (975, 976, (.iconst 0, 1), (0, 0, 0, 0)), (976, 977, (.ireturn, 1), (0, 0, 0, 0)), (977, 980, (.goto 1528, 3), (2505, 0, 0, 0)), (980, 981, (.aload_n 1, 1), (1, 0, 0, 0)), (981, 982, (.aload_n 0, 1), (0, 0, 0, 0)), (982, 984, (.iload 5, 2), (5, 0, 0, 0)), (984, 985, (.iconst 1, 1), (0, 0, 0, 0)), (985, 986, (.iadd, 1), (0, 0, 0, 0)), (986, 987, (.iaload, 1), (12, 0, 0, 0)), (987, 988, (.aload_n 0, 1), (0, 0, 0, 0)), (988, 990, (.iload 5, 2), (5, 0, 0, 0)), (990, 991, (.iconst 2, 1), (0, 0, 0, 0)), (991, 992, (.iadd, 1), (0, 0, 0, 0)), (992, 993, (.iaload, 1), (12, 0, 0, 0)), (993, 994, (.aload_n 0, 1), (0, 0, 0, 0)), (994, 996, (.iload 5, 2), (5, 0, 0, 0)), (996, 997, (.iconst 3, 1), (0, 0, 0, 0)), (997, 998, (.iadd, 1), (0, 0, 0, 0)), (998, 999, (.iaload, 1), (12, 0, 0, 0)), (999, 1000, (.aload_n 3, 1), (3, 0, 0, 0)), (1000, 1003, (.invokestatic 187, 3), (218, 5, 3, 0)), (1003, 1005, (.istore 6, 2), (6, 0, 0, 0)), (1005, 1006, (.aload_n 2, 1), (2, 0, 0, 0)), (1006, 1007, (.aload_n 0, 1), (0, 0, 0, 0)), (1007, 1009, (.iload 5, 2), (5, 0, 0, 0)), (1009, 1010, (.iconst 1, 1), (0, 0, 0, 0)), (1010, 1011, (.iadd, 1), (0, 0, 0, 0)), (1011, 1012, (.iaload, 1), (12, 0, 0, 0)), (1012, 1013, (.aload_n 0, 1), (0, 0, 0, 0)), (1013, 1015, (.iload 5, 2), (5, 0, 0, 0)), (1015, 1016, (.iconst 2, 1), (0, 0, 0, 0)), (1016, 1017, (.iadd, 1), (0, 0, 0, 0)), (1017, 1018, (.iaload, 1), (12, 0, 0, 0)), (1018, 1019, (.aload_n 0, 1), (0, 0, 0, 0)), (1019, 1021, (.iload 5, 2), (5, 0, 0, 0)), (1021, 1022, (.iconst 3, 1), (0, 0, 0, 0)), (1022, 1023, (.iadd, 1), (0, 0, 0, 0)), (1023, 1024, (.iaload, 1), (12, 0, 0, 0)), (1024, 1027, (.invokevirtual 190, 3), (164, 3, 0, 7)), (1027, 1029, (.istore 7, 2), (7, 0, 0, 0)), (1029, 1030, (.aload_n 2, 1), (2, 0, 0, 0)), (1030, 1033, (.invokevirtual 153, 3), (124, 0, 0, 7)), (1033, 1035, (.iload 6, 2), (6, 0, 0, 0)), (1035, 1038, (.if_icmp .eq 5, 3), (1040, 0, 0, 0)), (1038, 1039, (.iconst 0, 1), (0, 0, 0, 0)), (1039, 1040, (.ireturn, 1), (0, 0, 0, 0)), (1040, 1042, (.iload 6, 2), (6, 0, 0, 0)), (1042, 1045, (.ifCond .ne 15, 3), (1057, 0, 0, 0)), (1045, 1046, (.aload_n 3, 1), (3, 0, 0, 0)), (1046, 1047, (.iconst 0, 1), (0, 0, 0, 0)), (1047, 1048, (.laload, 1), (0, 0, 0, 0)), (1048, 1050, (.iload 7, 2), (7, 0, 0, 0)), (1050, 1051, (.i2l, 1), (0, 0, 0, 0)), (1051, 1052, (.lcmp, 1), (0, 0, 0, 0)), (1052, 1055, (.ifCond .eq 5, 3), (1057, 0, 0, 0)), (1055, 1056, (.iconst 0, 1), (0, 0, 0, 0)), (1056, 1057, (.ireturn, 1), (0, 0, 0, 0)), (1057, 1060, (.goto 1448, 3), (2505, 0, 0, 0)), (1060, 1061, (.aload_n 1, 1), (1, 0, 0, 0)), (1061, 1062, (.aload_n 0, 1), (0, 0, 0, 0)), (1062, 1064, (.iload 5, 2), (5, 0, 0, 0)), (1064, 1065, (.iconst 1, 1), (0, 0, 0, 0)), (1065, 1066, (.iadd, 1), (0, 0, 0, 0)), (1066, 1067, (.iaload, 1), (12, 0, 0, 0)), (1067, 1068, (.aload_n 3, 1), (3, 0, 0, 0)), (1068, 1071, (.invokestatic 191, 3), (219, 3, 1, 0)), (1071, 1073, (.istore 6, 2), (6, 0, 0, 0)), (1073, 1074, (.aload_n 2, 1), (2, 0, 0, 0)), (1074, 1075, (.aload_n 0, 1), (0, 0, 0, 0)), (1075, 1077, (.iload 5, 2), (5, 0, 0, 0)), (1077, 1078, (.iconst 1, 1), (0, 0, 0, 0)), (1078, 1079, (.iadd, 1), (0, 0, 0, 0)), (1079, 1080, (.iaload, 1), (12, 0, 0, 0)), (1080, 1083, (.invokevirtual 193, 3), (165, 1, 0, 7)), (1083, 1085, (.istore 7, 2), (7, 0, 0, 0)), (1085, 1086, (.aload_n 2, 1), (2, 0, 0, 0)), (1086, 1089, (.invokevirtual 153, 3), (124, 0, 0, 7)), (1089, 1091, (.iload 6, 2), (6, 0, 0, 0)), (1091, 1094, (.if_icmp .eq 5, 3), (1096, 0, 0, 0)), (1094, 1095, (.iconst 0, 1), (0, 0, 0, 0)), (1095, 1096, (.ireturn, 1), (0, 0, 0, 0)), (1096, 1098, (.iload 6, 2), (6, 0, 0, 0)), (1098, 1101, (.ifCond .ne 15, 3), (1113, 0, 0, 0)), (1101, 1102, (.aload_n 3, 1), (3, 0, 0, 0)), (1102, 1103, (.iconst 0, 1), (0, 0, 0, 0)), (1103, 1104, (.laload, 1), (0, 0, 0, 0)), (1104, 1106, (.iload 7, 2), (7, 0, 0, 0)), (1106, 1107, (.i2l, 1), (0, 0, 0, 0)), (1107, 1108, (.lcmp, 1), (0, 0, 0, 0)), (1108, 1111, (.ifCond .eq 5, 3), (1113, 0, 0, 0)), (1111, 1112, (.iconst 0, 1), (0, 0, 0, 0)), (1112, 1113, (.ireturn, 1), (0, 0, 0, 0))]
def ml_L_law_6 : List mg_E := [(1113, 1116, (.goto 1392, 3), (2505, 0, 0, 0)), (1116, 1117, (.aload_n 1, 1), (1, 0, 0, 0)), (1117, 1118, (.aload_n 0, 1), (0, 0, 0, 0)), (1118, 1120, (.iload 5, 2), (5, 0, 0, 0)), (1120, 1121, (.iconst 1, 1), (0, 0, 0, 0)), (1121, 1122, (.iadd, 1), (0, 0, 0, 0)), (1122, 1123, (.iaload, 1), (12, 0, 0, 0)), (1123, 1124, (.aload_n 0, 1), (0, 0, 0, 0)), (1124, 1126, (.iload 5, 2), (5, 0, 0, 0)), (1126, 1127, (.iconst 2, 1), (0, 0, 0, 0)), (1127, 1128, (.iadd, 1), (0, 0, 0, 0)), (1128, 1129, (.iaload, 1), (12, 0, 0, 0)), (1129, 1130, (.aload_n 0, 1), (0, 0, 0, 0)), (1130, 1132, (.iload 5, 2), (5, 0, 0, 0)), (1132, 1133, (.iconst 3, 1), (0, 0, 0, 0)), (1133, 1134, (.iadd, 1), (0, 0, 0, 0)), (1134, 1135, (.iaload, 1), (12, 0, 0, 0)), (1135, 1136, (.aload_n 0, 1), (0, 0, 0, 0)), (1136, 1138, (.iload 5, 2), (5, 0, 0, 0)), (1138, 1139, (.iconst 4, 1), (0, 0, 0, 0)), (1139, 1140, (.iadd, 1), (0, 0, 0, 0)), (1140, 1141, (.iaload, 1), (12, 0, 0, 0)), (1141, 1142, (.aload_n 3, 1), (3, 0, 0, 0)), (1142, 1145, (.invokestatic 194, 3), (220, 6, 4, 0)), (1145, 1147, (.istore 6, 2), (6, 0, 0, 0)), (1147, 1148, (.aload_n 2, 1), (2, 0, 0, 0)), (1148, 1149, (.aload_n 0, 1), (0, 0, 0, 0)), (1149, 1151, (.iload 5, 2), (5, 0, 0, 0)), (1151, 1152, (.iconst 1, 1), (0, 0, 0, 0)), (1152, 1153, (.iadd, 1), (0, 0, 0, 0)), (1153, 1154, (.iaload, 1), (12, 0, 0, 0)), (1154, 1155, (.aload_n 0, 1), (0, 0, 0, 0)), (1155, 1157, (.iload 5, 2), (5, 0, 0, 0)), (1157, 1158, (.iconst 2, 1), (0, 0, 0, 0)), (1158, 1159, (.iadd, 1), (0, 0, 0, 0)), (1159, 1160, (.iaload, 1), (12, 0, 0, 0)), (1160, 1161, (.aload_n 0, 1), (0, 0, 0, 0)), (1161, 1163, (.iload 5, 2), (5, 0, 0, 0)), (1163, 1164, (.iconst 3, 1), (0, 0, 0, 0)), (1164, 1165, (.iadd, 1), (0, 0, 0, 0)), (1165, 1166, (.iaload, 1), (12, 0, 0, 0)), (1166, 1167, (.aload_n 0, 1), (0, 0, 0, 0)), (1167, 1169, (.iload 5, 2), (5, 0, 0, 0)), (1169, 1170, (.iconst 4, 1), (0, 0, 0, 0)), (1170, 1171, (.iadd, 1), (0, 0, 0, 0)), (1171, 1172, (.iaload, 1), (12, 0, 0, 0)), (1172, 1175, (.invokevirtual 197, 3), (167, 4, 0, 7)), (1175, 1177, (.istore 7, 2), (7, 0, 0, 0)), (1177, 1178, (.aload_n 2, 1), (2, 0, 0, 0)), (1178, 1181, (.invokevirtual 153, 3), (124, 0, 0, 7)), (1181, 1183, (.iload 6, 2), (6, 0, 0, 0)), (1183, 1186, (.if_icmp .eq 5, 3), (1188, 0, 0, 0)), (1186, 1187, (.iconst 0, 1), (0, 0, 0, 0)), (1187, 1188, (.ireturn, 1), (0, 0, 0, 0)), (1188, 1190, (.iload 6, 2), (6, 0, 0, 0)), (1190, 1193, (.ifCond .ne 15, 3), (1205, 0, 0, 0)), (1193, 1194, (.aload_n 3, 1), (3, 0, 0, 0)), (1194, 1195, (.iconst 0, 1), (0, 0, 0, 0)), (1195, 1196, (.laload, 1), (0, 0, 0, 0)), (1196, 1198, (.iload 7, 2), (7, 0, 0, 0)), (1198, 1199, (.i2l, 1), (0, 0, 0, 0)), (1199, 1200, (.lcmp, 1), (0, 0, 0, 0)), (1200, 1203, (.ifCond .eq 5, 3), (1205, 0, 0, 0)), (1203, 1204, (.iconst 0, 1), (0, 0, 0, 0)), (1204, 1205, (.ireturn, 1), (0, 0, 0, 0)), (1205, 1208, (.goto 1300, 3), (2505, 0, 0, 0)), (1208, 1209, (.aload_n 1, 1), (1, 0, 0, 0)), (1209, 1210, (.aload_n 0, 1), (0, 0, 0, 0)), (1210, 1212, (.iload 5, 2), (5, 0, 0, 0)), (1212, 1213, (.iconst 1, 1), (0, 0, 0, 0)), (1213, 1214, (.iadd, 1), (0, 0, 0, 0)), (1214, 1215, (.iaload, 1), (12, 0, 0, 0)), (1215, 1216, (.i2c, 1), (0, 0, 0, 0)), (1216, 1217, (.aload_n 3, 1), (3, 0, 0, 0)), (1217, 1220, (.invokestatic 198, 3), (221, 3, 1, 0)), (1220, 1222, (.istore 6, 2), (6, 0, 0, 0)), (1222, 1223, (.aload_n 2, 1), (2, 0, 0, 0)), (1223, 1224, (.aload_n 0, 1), (0, 0, 0, 0)), (1224, 1226, (.iload 5, 2), (5, 0, 0, 0)), (1226, 1227, (.iconst 1, 1), (0, 0, 0, 0)), (1227, 1228, (.iadd, 1), (0, 0, 0, 0)), (1228, 1229, (.iaload, 1), (12, 0, 0, 0)), (1229, 1230, (.i2c, 1), (0, 0, 0, 0)), (1230, 1233, (.invokevirtual 201, 3), (168, 1, 0, 7)), (1233, 1235, (.istore 7, 2), (7, 0, 0, 0)), (1235, 1236, (.aload_n 2, 1), (2, 0, 0, 0)), (1236, 1239, (.invokevirtual 153, 3), (124, 0, 0, 7)), (1239, 1241, (.iload 6, 2), (6, 0, 0, 0)), (1241, 1244, (.if_icmp .eq 5, 3), (1246, 0, 0, 0)), (1244, 1245, (.iconst 0, 1), (0, 0, 0, 0)), (1245, 1246, (.ireturn, 1), (0, 0, 0, 0)), (1246, 1248, (.iload 6, 2), (6, 0, 0, 0)), (1248, 1251, (.ifCond .ne 15, 3), (1263, 0, 0, 0)), (1251, 1252, (.aload_n 3, 1), (3, 0, 0, 0)), (1252, 1253, (.iconst 0, 1), (0, 0, 0, 0)), (1253, 1254, (.laload, 1), (0, 0, 0, 0)), (1254, 1256, (.iload 7, 2), (7, 0, 0, 0)), (1256, 1257, (.i2l, 1), (0, 0, 0, 0)), (1257, 1258, (.lcmp, 1), (0, 0, 0, 0)), (1258, 1261, (.ifCond .eq 5, 3), (1263, 0, 0, 0))]
def ml_L_law_7 : List mg_E := [(1261, 1262, (.iconst 0, 1), (0, 0, 0, 0)), (1262, 1263, (.ireturn, 1), (0, 0, 0, 0)), (1263, 1266, (.goto 1242, 3), (2505, 0, 0, 0)), (1266, 1267, (.aload_n 1, 1), (1, 0, 0, 0)), (1267, 1270, (.invokevirtual 202, 3), (91, 0, 0, 6)), (1270, 1271, (.aload_n 2, 1), (2, 0, 0, 0)), (1271, 1274, (.invokevirtual 205, 3), (170, 0, 0, 7)), (1274, 1277, (.if_icmp .eq 1231, 3), (2505, 0, 0, 0)), (1277, 1278, (.iconst 0, 1), (0, 0, 0, 0)), (1278, 1279, (.ireturn, 1), (0, 0, 0, 0)), (1279, 1280, (.aload_n 1, 1), (1, 0, 0, 0)), (1280, 1281, (.aload_n 0, 1), (0, 0, 0, 0)), (1281, 1283, (.iload 5, 2), (5, 0, 0, 0)), (1283, 1284, (.iconst 1, 1), (0, 0, 0, 0)), (1284, 1285, (.iadd, 1), (0, 0, 0, 0)), (1285, 1286, (.iaload, 1), (12, 0, 0, 0)), (1286, 1287, (.aload_n 0, 1), (0, 0, 0, 0)), (1287, 1289, (.iload 5, 2), (5, 0, 0, 0)), (1289, 1290, (.iconst 2, 1), (0, 0, 0, 0)), (1290, 1291, (.iadd, 1), (0, 0, 0, 0)), (1291, 1292, (.iaload, 1), (12, 0, 0, 0)), (1292, 1293, (.aload_n 0, 1), (0, 0, 0, 0)), (1293, 1295, (.iload 5, 2), (5, 0, 0, 0)), (1295, 1296, (.iconst 3, 1), (0, 0, 0, 0)), (1296, 1297, (.iadd, 1), (0, 0, 0, 0)), (1297, 1298, (.iaload, 1), (12, 0, 0, 0)), (1298, 1299, (.aload_n 0, 1), (0, 0, 0, 0)), (1299, 1301, (.iload 5, 2), (5, 0, 0, 0)), (1301, 1302, (.iconst 4, 1), (0, 0, 0, 0)), (1302, 1303, (.iadd, 1), (0, 0, 0, 0)), (1303, 1304, (.iaload, 1), (12, 0, 0, 0)), (1304, 1305, (.aload_n 3, 1), (3, 0, 0, 0)), (1305, 1308, (.invokestatic 206, 3), (222, 6, 4, 0)), (1308, 1310, (.istore 6, 2), (6, 0, 0, 0)), (1310, 1311, (.aload_n 2, 1), (2, 0, 0, 0)), (1311, 1312, (.aload_n 0, 1), (0, 0, 0, 0)), (1312, 1314, (.iload 5, 2), (5, 0, 0, 0)), (1314, 1315, (.iconst 1, 1), (0, 0, 0, 0)), (1315, 1316, (.iadd, 1), (0, 0, 0, 0)), (1316, 1317, (.iaload, 1), (12, 0, 0, 0)), (1317, 1318, (.aload_n 0, 1), (0, 0, 0, 0)), (1318, 1320, (.iload 5, 2), (5, 0, 0, 0)), (1320, 1321, (.iconst 2, 1), (0, 0, 0, 0)), (1321, 1322, (.iadd, 1), (0, 0, 0, 0)), (1322, 1323, (.iaload, 1), (12, 0, 0, 0)), (1323, 1324, (.aload_n 0, 1), (0, 0, 0, 0)), (1324, 1326, (.iload 5, 2), (5, 0, 0, 0)), (1326, 1327, (.iconst 3, 1), (0, 0, 0, 0)), (1327, 1328, (.iadd, 1), (0, 0, 0, 0)), (1328, 1329, (.iaload, 1), (12, 0, 0, 0)), (1329, 1330, (.aload_n 0, 1), (0, 0, 0, 0)), (1330, 1332, (.iload 5, 2), (5, 0, 0, 0)), (1332, 1333, (.iconst 4, 1), (0, 0, 0, 0)), (1333, 1334, (.iadd, 1), (0, 0, 0, 0)), (1334, 1335, (.iaload, 1), (12, 0, 0, 0)), (1335, 1338, (.invokevirtual 208, 3), (171, 4, 0, 7)), (1338, 1340, (.istore 7, 2), (7, 0, 0, 0)), (1340, 1341, (.aload_n 2, 1), (2, 0, 0, 0)), (1341, 1344, (.invokevirtual 153, 3), (124, 0, 0, 7)), (1344, 1346, (.iload 6, 2), (6, 0, 0, 0)), (1346, 1349, (.if_icmp .eq 5, 3), (1351, 0, 0, 0)), (1349, 1350, (.iconst 0, 1), (0, 0, 0, 0)), (1350, 1351, (.ireturn, 1), (0, 0, 0, 0)), (1351, 1353, (.iload 6, 2), (6, 0, 0, 0)), (1353, 1356, (.ifCond .ne 15, 3), (1368, 0, 0, 0)), (1356, 1357, (.aload_n 3, 1), (3, 0, 0, 0)), (1357, 1358, (.iconst 0, 1), (0, 0, 0, 0)), (1358, 1359, (.laload, 1), (0, 0, 0, 0)), (1359, 1361, (.iload 7, 2), (7, 0, 0, 0)), (1361, 1362, (.i2l, 1), (0, 0, 0, 0)), (1362, 1363, (.lcmp, 1), (0, 0, 0, 0)), (1363, 1366, (.ifCond .eq 5, 3), (1368, 0, 0, 0)), (1366, 1367, (.iconst 0, 1), (0, 0, 0, 0)), (1367, 1368, (.ireturn, 1), (0, 0, 0, 0)), (1368, 1371, (.goto 1137, 3), (2505, 0, 0, 0)), (1371, 1372, (.aload_n 1, 1), (1, 0, 0, 0)), (1372, 1373, (.aload_n 3, 1), (3, 0, 0, 0)), (1373, 1376, (.invokestatic 209, 3), (223, 2, 1, 0)), (1376, 1378, (.istore 6, 2), (6, 0, 0, 0)), (1378, 1379, (.aload_n 2, 1), (2, 0, 0, 0)), (1379, 1382, (.invokevirtual 212, 3), (174, 0, 0, 7)), (1382, 1384, (.istore 7, 2), (7, 0, 0, 0)), (1384, 1385, (.aload_n 2, 1), (2, 0, 0, 0)), (1385, 1388, (.invokevirtual 153, 3), (124, 0, 0, 7)), (1388, 1390, (.iload 6, 2), (6, 0, 0, 0)), (1390, 1393, (.if_icmp .eq 5, 3), (1395, 0, 0, 0)), (1393, 1394, (.iconst 0, 1), (0, 0, 0, 0)), (1394, 1395, (.ireturn, 1), (0, 0, 0, 0)), (1395, 1397, (.iload 6, 2), (6, 0, 0, 0)), (1397, 1400, (.ifCond .ne 15, 3), (1412, 0, 0, 0)), (1400, 1401, (.aload_n 3, 1), (3, 0, 0, 0)), (1401, 1402, (.iconst 0, 1), (0, 0, 0, 0)), (1402, 1403, (.laload, 1), (0, 0, 0, 0)), (1403, 1405, (.iload 7, 2), (7, 0, 0, 0)), (1405, 1406, (.i2l, 1), (0, 0, 0, 0)), (1406, 1407, (.lcmp, 1), (0, 0, 0, 0)), (1407, 1410, (.ifCond .eq 5, 3), (1412, 0, 0, 0)), (1410, 1411, (.iconst 0, 1), (0, 0, 0, 0)), (1411, 1412, (.ireturn, 1), (0, 0, 0, 0)), (1412, 1415, (.goto 1093, 3), (2505, 0, 0, 0))]
def ml_L_law_8 : List mg_E := [(1415, 1416, (.aload_n 1, 1), (1, 0, 0, 0)), (1416, 1417, (.aload_n 0, 1), (0, 0, 0, 0)), (1417, 1419, (.iload 5, 2), (5, 0, 0, 0)), (1419, 1420, (.iconst 1, 1), (0, 0, 0, 0)), (1420, 1421, (.iadd, 1), (0, 0, 0, 0)), (1421, 1422, (.iaload, 1), (12, 0, 0, 0)), (1422, 1423, (.aload_n 0, 1), (0, 0, 0, 0)), (1423, 1425, (.iload 5, 2), (5, 0, 0, 0)), (1425, 1426, (.iconst 2, 1), (0, 0, 0, 0)), (1426, 1427, (.iadd, 1), (0, 0, 0, 0)), (1427, 1428, (.iaload, 1), (12, 0, 0, 0)), (1428, 1429, (.aload_n 0, 1), (0, 0, 0, 0)), (1429, 1431, (.iload 5, 2), (5, 0, 0, 0)), (1431, 1432, (.iconst 3, 1), (0, 0, 0, 0)), (1432, 1433, (.iadd, 1), (0, 0, 0, 0)), (1433, 1434, (.iaload, 1), (12, 0, 0, 0)), (1434, 1435, (.i2c, 1), (0, 0, 0, 0)), (1435, 1436, (.aload_n 3, 1), (3, 0, 0, 0)), (1436, 1439, (.invokestatic 213, 3), (224, 5, 3, 0)), (1439, 1441, (.istore 6, 2), (6, 0, 0, 0)), (1441, 1442, (.aload_n 2, 1), (2, 0, 0, 0)), (1442, 1443, (.aload_n 0, 1), (0, 0, 0, 0)), (1443, 1445, (.iload 5, 2), (5, 0, 0, 0)), (1445, 1446, (.iconst 1, 1), (0, 0, 0, 0)), (1446, 1447, (.iadd, 1), (0, 0, 0, 0)), (1447, 1448, (.iaload, 1), (12, 0, 0, 0)), (1448, 1449, (.aload_n 0, 1), (0, 0, 0, 0)), (1449, 1451, (.iload 5, 2), (5, 0, 0, 0)), (1451, 1452, (.iconst 2, 1), (0, 0, 0, 0)), (1452, 1453, (.iadd, 1), (0, 0, 0, 0)), (1453, 1454, (.iaload, 1), (12, 0, 0, 0)), (1454, 1455, (.aload_n 0, 1), (0, 0, 0, 0)), (1455, 1457, (.iload 5, 2), (5, 0, 0, 0)), (1457, 1458, (.iconst 3, 1), (0, 0, 0, 0)), (1458, 1459, (.iadd, 1), (0, 0, 0, 0)), (1459, 1460, (.iaload, 1), (12, 0, 0, 0)), (1460, 1461, (.i2c, 1), (0, 0, 0, 0)), (1461, 1464, (.invokevirtual 216, 3), (175, 3, 0, 7)), (1464, 1466, (.istore 7, 2), (7, 0, 0, 0)), (1466, 1467, (.aload_n 2, 1), (2, 0, 0, 0)), (1467, 1470, (.invokevirtual 153, 3), (124, 0, 0, 7)), (1470, 1472, (.iload 6, 2), (6, 0, 0, 0)), (1472, 1475, (.if_icmp .eq 5, 3), (1477, 0, 0, 0)), (1475, 1476, (.iconst 0, 1), (0, 0, 0, 0)), (1476, 1477, (.ireturn, 1), (0, 0, 0, 0)), (1477, 1479, (.iload 6, 2), (6, 0, 0, 0)), (1479, 1482, (.ifCond .ne 15, 3), (1494, 0, 0, 0)), (1482, 1483, (.aload_n 3, 1), (3, 0, 0, 0)), (1483, 1484, (.iconst 0, 1), (0, 0, 0, 0)), (1484, 1485, (.laload, 1), (0, 0, 0, 0)), (1485, 1487, (.iload 7, 2), (7, 0, 0, 0)), (1487, 1488, (.i2l, 1), (0, 0, 0, 0)), (1488, 1489, (.lcmp, 1), (0, 0, 0, 0)), (1489, 1492, (.ifCond .eq 5, 3), (1494, 0, 0, 0)), (1492, 1493, (.iconst 0, 1), (0, 0, 0, 0)), (1493, 1494, (.ireturn, 1), (0, 0, 0, 0)), (1494, 1497, (.goto 1011, 3), (2505, 0, 0, 0)), (1497, 1498, (.aload_n 1, 1), (1, 0, 0, 0)), (1498, 1499, (.aload_n 3, 1), (3, 0, 0, 0)), (1499, 1502, (.invokestatic 217, 3), (225, 2, 1, 0)), (1502, 1504, (.istore 6, 2), (6, 0, 0, 0)), (1504, 1505, (.aload_n 2, 1), (2, 0, 0, 0)), (1505, 1508, (.invokevirtual 219, 3), (180, 0, 0, 7)), (1508, 1510, (.istore 7, 2), (7, 0, 0, 0)), (1510, 1511, (.aload_n 2, 1), (2, 0, 0, 0)), (1511, 1514, (.invokevirtual 153, 3), (124, 0, 0, 7)), (1514, 1516, (.iload 6, 2), (6, 0, 0, 0)), (1516, 1519, (.if_icmp .eq 5, 3), (1521, 0, 0, 0)), (1519, 1520, (.iconst 0, 1), (0, 0, 0, 0)), (1520, 1521, (.ireturn, 1), (0, 0, 0, 0)), (1521, 1523, (.iload 6, 2), (6, 0, 0, 0)), (1523, 1526, (.ifCond .ne 15, 3), (1538, 0, 0, 0)), (1526, 1527, (.aload_n 3, 1), (3, 0, 0, 0)), (1527, 1528, (.iconst 0, 1), (0, 0, 0, 0)), (1528, 1529, (.laload, 1), (0, 0, 0, 0)), (1529, 1531, (.iload 7, 2), (7, 0, 0, 0)), (1531, 1532, (.i2l, 1), (0, 0, 0, 0)), (1532, 1533, (.lcmp, 1), (0, 0, 0, 0)), (1533, 1536, (.ifCond .eq 5, 3), (1538, 0, 0, 0)), (1536, 1537, (.iconst 0, 1), (0, 0, 0, 0)), (1537, 1538, (.ireturn, 1), (0, 0, 0, 0)), (1538, 1541, (.goto 967, 3), (2505, 0, 0, 0)), (1541, 1542, (.aload_n 1, 1), (1, 0, 0, 0)), (1542, 1545, (.invokevirtual 220, 3), (96, 0, 0, 6)), (1545, 1546, (.aload_n 2, 1), (2, 0, 0, 0)), (1546, 1549, (.invokevirtual 223, 3), (181, 0, 0, 7)), (1549, 1552, (.if_icmp .eq 956, 3), (2505, 0, 0, 0)), (1552, 1553, (.iconst 0, 1), (0, 0, 0, 0)), (1553, 1554, (.ireturn, 1), (0, 0, 0, 0)), (1554, 1555, (.aload_n 1, 1), (1, 0, 0, 0)), (1555, 1556, (.aload_n 0, 1), (0, 0, 0, 0)), (1556, 1558, (.iload 5, 2), (5, 0, 0, 0)), (1558, 1559, (.iconst 1, 1), (0, 0, 0, 0)), (1559, 1560, (.iadd, 1), (0, 0, 0, 0)), (1560, 1561, (.iaload, 1), (12, 0, 0, 0)), (1561, 1562, (.aload_n 0, 1), (0, 0, 0, 0)), (1562, 1564, (.iload 5, 2), (5, 0, 0, 0)), (1564, 1565, (.iconst 2, 1), (0, 0, 0, 0)), (1565, 1566, (.iadd, 1), (0, 0, 0, 0)), (1566, 1567, (.iaload, 1), (12, 0, 0, 0))]
def ml_L_law_9 : List mg_E := [(1567, 1568, (.aload_n 0, 1), (0, 0, 0, 0)), (1568, 1570, (.iload 5, 2), (5, 0, 0, 0)), (1570, 1571, (.iconst 3, 1), (0, 0, 0, 0)), (1571, 1572, (.iadd, 1), (0, 0, 0, 0)), (1572, 1573, (.iaload, 1), (12, 0, 0, 0)), (1573, 1574, (.aload_n 0, 1), (0, 0, 0, 0)), (1574, 1576, (.iload 5, 2), (5, 0, 0, 0)), (1576, 1577, (.iconst 4, 1), (0, 0, 0, 0)), (1577, 1578, (.iadd, 1), (0, 0, 0, 0)), (1578, 1579, (.iaload, 1), (12, 0, 0, 0)), (1579, 1580, (.aload_n 3, 1), (3, 0, 0, 0)), (1580, 1583, (.invokestatic 224, 3), (226, 6, 3, 0)), (1583, 1585, (.istore 6, 2), (6, 0, 0, 0)), (1585, 1586, (.aload_n 2, 1), (2, 0, 0, 0)), (1586, 1587, (.aload_n 0, 1), (0, 0, 0, 0)), (1587, 1589, (.iload 5, 2), (5, 0, 0, 0)), (1589, 1590, (.iconst 1, 1), (0, 0, 0, 0)), (1590, 1591, (.iadd, 1), (0, 0, 0, 0)), (1591, 1592, (.iaload, 1), (12, 0, 0, 0)), (1592, 1593, (.aload_n 0, 1), (0, 0, 0, 0)), (1593, 1595, (.iload 5, 2), (5, 0, 0, 0)), (1595, 1596, (.iconst 2, 1), (0, 0, 0, 0)), (1596, 1597, (.iadd, 1), (0, 0, 0, 0)), (1597, 1598, (.iaload, 1), (12, 0, 0, 0)), (1598, 1599, (.aload_n 0, 1), (0, 0, 0, 0)), (1599, 1601, (.iload 5, 2), (5, 0, 0, 0)), (1601, 1602, (.iconst 3, 1), (0, 0, 0, 0)), (1602, 1603, (.iadd, 1), (0, 0, 0, 0)), (1603, 1604, (.iaload, 1), (12, 0, 0, 0)), (1604, 1605, (.aload_n 0, 1), (0, 0, 0, 0)), (1605, 1607, (.iload 5, 2), (5, 0, 0, 0)), (1607, 1608, (.iconst 4, 1), (0, 0, 0, 0)), (1608, 1609, (.iadd, 1), (0, 0, 0, 0)), (1609, 1610, (.iaload, 1), (12, 0, 0, 0)), (1610, 1613, (.invokevirtual 226, 3), (184, 4, 0, 7)), (1613, 1615, (.istore 7, 2), (7, 0, 0, 0)), (1615, 1616, (.aload_n 2, 1), (2, 0, 0, 0)), (1616, 1619, (.invokevirtual 153, 3), (124, 0, 0, 7)), (1619, 1621, (.iload 6, 2), (6, 0, 0, 0)), (1621, 1624, (.if_icmp .eq 5, 3), (1626, 0, 0, 0)), (1624, 1625, (.iconst 0, 1), (0, 0, 0, 0)), (1625, 1626, (.ireturn, 1), (0, 0, 0, 0)), (1626, 1628, (.iload 6, 2), (6, 0, 0, 0)), (1628, 1631, (.ifCond .ne 15, 3), (1643, 0, 0, 0)), (1631, 1632, (.aload_n 3, 1), (3, 0, 0, 0)), (1632, 1633, (.iconst 0, 1), (0, 0, 0, 0)), (1633, 1634, (.laload, 1), (0, 0, 0, 0)), (1634, 1636, (.iload 7, 2), (7, 0, 0, 0)), (1636, 1637, (.i2l, 1), (0, 0, 0, 0)), (1637, 1638, (.lcmp, 1), (0, 0, 0, 0)), (1638, 1641, (.ifCond .eq 5, 3), (1643, 0, 0, 0)), (1641, 1642, (.iconst 0, 1), (0, 0, 0, 0)), (1642, 1643, (.ireturn, 1), (0, 0, 0, 0)), (1643, 1646, (.goto 862, 3), (2505, 0, 0, 0)), (1646, 1647, (.aload_n 1, 1), (1, 0, 0, 0)), (1647, 1648, (.aload_n 0, 1), (0, 0, 0, 0)), (1648, 1650, (.iload 5, 2), (5, 0, 0, 0)), (1650, 1651, (.iconst 1, 1), (0, 0, 0, 0)), (1651, 1652, (.iadd, 1), (0, 0, 0, 0)), (1652, 1653, (.iaload, 1), (12, 0, 0, 0)), (1653, 1654, (.aload_n 3, 1), (3, 0, 0, 0)), (1654, 1657, (.invokestatic 227, 3), (227, 3, 1, 0)), (1657, 1659, (.istore 6, 2), (6, 0, 0, 0)), (1659, 1660, (.aload_n 2, 1), (2, 0, 0, 0)), (1660, 1661, (.aload_n 0, 1), (0, 0, 0, 0)), (1661, 1663, (.iload 5, 2), (5, 0, 0, 0)), (1663, 1664, (.iconst 1, 1), (0, 0, 0, 0)), (1664, 1665, (.iadd, 1), (0, 0, 0, 0)), (1665, 1666, (.iaload, 1), (12, 0, 0, 0)), (1666, 1669, (.invokevirtual 229, 3), (189, 1, 0, 7)), (1669, 1671, (.istore 7, 2), (7, 0, 0, 0)), (1671, 1672, (.aload_n 2, 1), (2, 0, 0, 0)), (1672, 1675, (.invokevirtual 153, 3), (124, 0, 0, 7)), (1675, 1677, (.iload 6, 2), (6, 0, 0, 0)), (1677, 1680, (.if_icmp .eq 5, 3), (1682, 0, 0, 0)), (1680, 1681, (.iconst 0, 1), (0, 0, 0, 0)), (1681, 1682, (.ireturn, 1), (0, 0, 0, 0)), (1682, 1684, (.iload 6, 2), (6, 0, 0, 0)), (1684, 1687, (.ifCond .ne 15, 3), (1699, 0, 0, 0)), (1687, 1688, (.aload_n 3, 1), (3, 0, 0, 0)), (1688, 1689, (.iconst 0, 1), (0, 0, 0, 0)), (1689, 1690, (.laload, 1), (0, 0, 0, 0)), (1690, 1692, (.iload 7, 2), (7, 0, 0, 0)), (1692, 1693, (.i2l, 1), (0, 0, 0, 0)), (1693, 1694, (.lcmp, 1), (0, 0, 0, 0)), (1694, 1697, (.ifCond .eq 5, 3), (1699, 0, 0, 0)), (1697, 1698, (.iconst 0, 1), (0, 0, 0, 0)), (1698, 1699, (.ireturn, 1), (0, 0, 0, 0)), (1699, 1702, (.goto 806, 3), (2505, 0, 0, 0)), (1702, 1703, (.aload_n 1, 1), (1, 0, 0, 0)), (1703, 1706, (.invokevirtual 230, 3), (99, 0, 0, 6)), (1706, 1707, (.aload_n 2, 1), (2, 0, 0, 0)), (1707, 1710, (.invokevirtual 233, 3), (190, 0, 0, 7)), (1710, 1713, (.if_icmp .eq 795, 3), (2505, 0, 0, 0)), (1713, 1714, (.iconst 0, 1), (0, 0, 0, 0)), (1714, 1715, (.ireturn, 1), (0, 0, 0, 0)), (1715, 1716, (.aload_n 1, 1), (1, 0, 0, 0)), (1716, 1717, (.aload_n 0, 1), (0, 0, 0, 0)), (1717, 1719, (.iload 5, 2), (5, 0, 0, 0)), (1719, 1720, (.iconst 1, 1), (0, 0, 0, 0))]
def ml_L_law_10 : List mg_E := [(1720, 1721, (.iadd, 1), (0, 0, 0, 0)), (1721, 1722, (.iaload, 1), (12, 0, 0, 0)), (1722, 1723, (.aload_n 0, 1), (0, 0, 0, 0)), (1723, 1725, (.iload 5, 2), (5, 0, 0, 0)), (1725, 1726, (.iconst 2, 1), (0, 0, 0, 0)), (1726, 1727, (.iadd, 1), (0, 0, 0, 0)), (1727, 1728, (.iaload, 1), (12, 0, 0, 0)), (1728, 1731, (.ifCond .eq 7, 3), (1735, 0, 0, 0)), (1731, 1732, (.iconst 1, 1), (0, 0, 0, 0)), (1732, 1735, (.goto 4, 3), (1736, 0, 0, 0)), (1735, 1736, (.iconst 0, 1), (0, 0, 0, 0)), (1736, 1737, (.aload_n 3, 1), (3, 0, 0, 0)), (1737, 1740, (.invokestatic 234, 3), (228, 4, 2, 0)), (1740, 1742, (.istore 6, 2), (6, 0, 0, 0)), (1742, 1743, (.aload_n 2, 1), (2, 0, 0, 0)), (1743, 1744, (.aload_n 0, 1), (0, 0, 0, 0)), (1744, 1746, (.iload 5, 2), (5, 0, 0, 0)), (1746, 1747, (.iconst 1, 1), (0, 0, 0, 0)), (1747, 1748, (.iadd, 1), (0, 0, 0, 0)), (1748, 1749, (.iaload, 1), (12, 0, 0, 0)), (1749, 1750, (.aload_n 0, 1), (0, 0, 0, 0)), (1750, 1752, (.iload 5, 2), (5, 0, 0, 0)), (1752, 1753, (.iconst 2, 1), (0, 0, 0, 0)), (1753, 1754, (.iadd, 1), (0, 0, 0, 0)), (1754, 1755, (.iaload, 1), (12, 0, 0, 0)), (1755, 1758, (.ifCond .eq 7, 3), (1762, 0, 0, 0)), (1758, 1759, (.iconst 1, 1), (0, 0, 0, 0)), (1759, 1762, (.goto 4, 3), (1763, 0, 0, 0)), (1762, 1763, (.iconst 0, 1), (0, 0, 0, 0)), (1763, 1766, (.invokevirtual 237, 3), (191, 2, 0, 7)), (1766, 1768, (.istore 7, 2), (7, 0, 0, 0)), (1768, 1769, (.aload_n 2, 1), (2, 0, 0, 0)), (1769, 1772, (.invokevirtual 153, 3), (124, 0, 0, 7)), (1772, 1774, (.iload 6, 2), (6, 0, 0, 0)), (1774, 1777, (.if_icmp .eq 5, 3), (1779, 0, 0, 0)), (1777, 1778, (.iconst 0, 1), (0, 0, 0, 0)), (1778, 1779, (.ireturn, 1), (0, 0, 0, 0)), (1779, 1781, (.iload 6, 2), (6, 0, 0, 0)), (1781, 1784, (.ifCond .ne 15, 3), (1796, 0, 0, 0)), (1784, 1785, (.aload_n 3, 1), (3, 0, 0, 0)), (1785, 1786, (.iconst 0, 1), (0, 0, 0, 0)), (1786, 1787, (.laload, 1), (0, 0, 0, 0)), (1787, 1789, (.iload 7, 2), (7, 0, 0, 0)), (1789, 1790, (.i2l, 1), (0, 0, 0, 0)), (1790, 1791, (.lcmp, 1), (0, 0, 0, 0)), (1791, 1794, (.ifCond .eq 5, 3), (1796, 0, 0, 0)), (1794, 1795, (.iconst 0, 1), (0, 0, 0, 0)), (1795, 1796, (.ireturn, 1), (0, 0, 0, 0)), (1796, 1799, (.goto 709, 3), (2505, 0, 0, 0)), (1799, 1800, (.aload_n 1, 1), (1, 0, 0, 0)), (1800, 1801, (.aload_n 0, 1), (0, 0, 0, 0)), (1801, 1803, (.iload 5, 2), (5, 0, 0, 0)), (1803, 1804, (.iconst 1, 1), (0, 0, 0, 0)), (1804, 1805, (.iadd, 1), (0, 0, 0, 0)), (1805, 1806, (.iaload, 1), (12, 0, 0, 0)), (1806, 1807, (.aload_n 3, 1), (3, 0, 0, 0)), (1807, 1810, (.invokestatic 238, 3), (229, 3, 1, 0)), (1810, 1812, (.istore 6, 2), (6, 0, 0, 0)), (1812, 1813, (.aload_n 2, 1), (2, 0, 0, 0)), (1813, 1814, (.aload_n 0, 1), (0, 0, 0, 0)), (1814, 1816, (.iload 5, 2), (5, 0, 0, 0)), (1816, 1817, (.iconst 1, 1), (0, 0, 0, 0)), (1817, 1818, (.iadd, 1), (0, 0, 0, 0)), (1818, 1819, (.iaload, 1), (12, 0, 0, 0)), (1819, 1822, (.invokevirtual 240, 3), (193, 1, 0, 7)), (1822, 1824, (.istore 7, 2), (7, 0, 0, 0)), (1824, 1825, (.aload_n 2, 1), (2, 0, 0, 0)), (1825, 1828, (.invokevirtual 153, 3), (124, 0, 0, 7)), (1828, 1830, (.iload 6, 2), (6, 0, 0, 0)), (1830, 1833, (.if_icmp .eq 5, 3), (1835, 0, 0, 0)), (1833, 1834, (.iconst 0, 1), (0, 0, 0, 0)), (1834, 1835, (.ireturn, 1), (0, 0, 0, 0)), (1835, 1837, (.iload 6, 2), (6, 0, 0, 0)), (1837, 1840, (.ifCond .ne 15, 3), (1852, 0, 0, 0)), (1840, 1841, (.aload_n 3, 1), (3, 0, 0, 0)), (1841, 1842, (.iconst 0, 1), (0, 0, 0, 0)), (1842, 1843, (.laload, 1), (0, 0, 0, 0)), (1843, 1845, (.iload 7, 2), (7, 0, 0, 0)), (1845, 1846, (.i2l, 1), (0, 0, 0, 0)), (1846, 1847, (.lcmp, 1), (0, 0, 0, 0)), (1847, 1850, (.ifCond .eq 5, 3), (1852, 0, 0, 0)), (1850, 1851, (.iconst 0, 1), (0, 0, 0, 0)), (1851, 1852, (.ireturn, 1), (0, 0, 0, 0)), (1852, 1855, (.goto 653, 3), (2505, 0, 0, 0)), (1855, 1856, (.aload_n 1, 1), (1, 0, 0, 0)), (1856, 1857, (.aload_n 0, 1), (0, 0, 0, 0)), (1857, 1859, (.iload 5, 2), (5, 0, 0, 0)), (1859, 1860, (.iconst 1, 1), (0, 0, 0, 0)), (1860, 1861, (.iadd, 1), (0, 0, 0, 0)), (1861, 1862, (.iaload, 1), (12, 0, 0, 0)), (1862, 1863, (.aload_n 3, 1), (3, 0, 0, 0)), (1863, 1866, (.invokestatic 241, 3), (230, 3, 1, 0)), (1866, 1868, (.istore 6, 2), (6, 0, 0, 0)), (1868, 1869, (.aload_n 2, 1), (2, 0, 0, 0)), (1869, 1870, (.aload_n 0, 1), (0, 0, 0, 0)), (1870, 1872, (.iload 5, 2), (5, 0, 0, 0)), (1872, 1873, (.iconst 1, 1), (0, 0, 0, 0)), (1873, 1874, (.iadd, 1), (0, 0, 0, 0)), (1874, 1875, (.iaload, 1), (12, 0, 0, 0)), (1875, 1878, (.invokevirtual 243, 3), (194, 1, 0, 7))]
def ml_L_law_11 : List mg_E := [(1878, 1880, (.istore 7, 2), (7, 0, 0, 0)), (1880, 1881, (.aload_n 2, 1), (2, 0, 0, 0)), (1881, 1884, (.invokevirtual 153, 3), (124, 0, 0, 7)), (1884, 1886, (.iload 6, 2), (6, 0, 0, 0)), (1886, 1889, (.if_icmp .eq 5, 3), (1891, 0, 0, 0)), (1889, 1890, (.iconst 0, 1), (0, 0, 0, 0)), (1890, 1891, (.ireturn, 1), (0, 0, 0, 0)), (1891, 1893, (.iload 6, 2), (6, 0, 0, 0)), (1893, 1896, (.ifCond .ne 15, 3), (1908, 0, 0, 0)), (1896, 1897, (.aload_n 3, 1), (3, 0, 0, 0)), (1897, 1898, (.iconst 0, 1), (0, 0, 0, 0)), (1898, 1899, (.laload, 1), (0, 0, 0, 0)), (1899, 1901, (.iload 7, 2), (7, 0, 0, 0)), (1901, 1902, (.i2l, 1), (0, 0, 0, 0)), (1902, 1903, (.lcmp, 1), (0, 0, 0, 0)), (1903, 1906, (.ifCond .eq 5, 3), (1908, 0, 0, 0)), (1906, 1907, (.iconst 0, 1), (0, 0, 0, 0)), (1907, 1908, (.ireturn, 1), (0, 0, 0, 0)), (1908, 1911, (.goto 597, 3), (2505, 0, 0, 0)), (1911, 1912, (.aload_n 1, 1), (1, 0, 0, 0)), (1912, 1913, (.aload_n 0, 1), (0, 0, 0, 0)), (1913, 1915, (.iload 5, 2), (5, 0, 0, 0)), (1915, 1916, (.iconst 1, 1), (0, 0, 0, 0)), (1916, 1917, (.iadd, 1), (0, 0, 0, 0)), (1917, 1918, (.iaload, 1), (12, 0, 0, 0)), (1918, 1919, (.aload_n 0, 1), (0, 0, 0, 0)), (1919, 1921, (.iload 5, 2), (5, 0, 0, 0)), (1921, 1922, (.iconst 2, 1), (0, 0, 0, 0)), (1922, 1923, (.iadd, 1), (0, 0, 0, 0)), (1923, 1924, (.iaload, 1), (12, 0, 0, 0)), (1924, 1925, (.aload_n 3, 1), (3, 0, 0, 0)), (1925, 1928, (.invokestatic 244, 3), (231, 4, 2, 0)), (1928, 1930, (.istore 6, 2), (6, 0, 0, 0)), (1930, 1931, (.aload_n 2, 1), (2, 0, 0, 0)), (1931, 1932, (.aload_n 0, 1), (0, 0, 0, 0)), (1932, 1934, (.iload 5, 2), (5, 0, 0, 0)), (1934, 1935, (.iconst 1, 1), (0, 0, 0, 0)), (1935, 1936, (.iadd, 1), (0, 0, 0, 0)), (1936, 1937, (.iaload, 1), (12, 0, 0, 0)), (1937, 1938, (.aload_n 0, 1), (0, 0, 0, 0)), (1938, 1940, (.iload 5, 2), (5, 0, 0, 0)), (1940, 1941, (.iconst 2, 1), (0, 0, 0, 0)), (1941, 1942, (.iadd, 1), (0, 0, 0, 0)), (1942, 1943, (.iaload, 1), (12, 0, 0, 0)), (1943, 1946, (.invokevirtual 246, 3), (195, 2, 0, 7)), (1946, 1948, (.istore 7, 2), (7, 0, 0, 0)), (1948, 1949, (.aload_n 2, 1), (2, 0, 0, 0)), (1949, 1952, (.invokevirtual 153, 3), (124, 0, 0, 7)), (1952, 1954, (.iload 6, 2), (6, 0, 0, 0)), (1954, 1957, (.if_icmp .eq 5, 3), (1959, 0, 0, 0)), (1957, 1958, (.iconst 0, 1), (0, 0, 0, 0)), (1958, 1959, (.ireturn, 1), (0, 0, 0, 0)), (1959, 1961, (.iload 6, 2), (6, 0, 0, 0)), (1961, 1964, (.ifCond .ne 15, 3), (1976, 0, 0, 0)), (1964, 1965, (.aload_n 3, 1), (3, 0, 0, 0)), (1965, 1966, (.iconst 0, 1), (0, 0, 0, 0)), (1966, 1967, (.laload, 1), (0, 0, 0, 0)), (1967, 1969, (.iload 7, 2), (7, 0, 0, 0)), (1969, 1970, (.i2l, 1), (0, 0, 0, 0)), (1970, 1971, (.lcmp, 1), (0, 0, 0, 0)), (1971, 1974, (.ifCond .eq 5, 3), (1976, 0, 0, 0)), (1974, 1975, (.iconst 0, 1), (0, 0, 0, 0)), (1975, 1976, (.ireturn, 1), (0, 0, 0, 0)), (1976, 1979, (.goto 529, 3), (2505, 0, 0, 0)), (1979, 1980, (.aload_n 1, 1), (1, 0, 0, 0)), (1980, 1981, (.aload_n 0, 1), (0, 0, 0, 0)), (1981, 1983, (.iload 5, 2), (5, 0, 0, 0)), (1983, 1984, (.iconst 1, 1), (0, 0, 0, 0)), (1984, 1985, (.iadd, 1), (0, 0, 0, 0)), (1985, 1986, (.iaload, 1), (12, 0, 0, 0)), (1986, 1987, (.aload_n 0, 1), (0, 0, 0, 0)), (1987, 1989, (.iload 5, 2), (5, 0, 0, 0)), (1989, 1990, (.iconst 2, 1), (0, 0, 0, 0)), (1990, 1991, (.iadd, 1), (0, 0, 0, 0)), (1991, 1992, (.iaload, 1), (12, 0, 0, 0)), (1992, 1993, (.aload_n 3, 1), (3, 0, 0, 0)), (1993, 1996, (.invokestatic 247, 3), (232, 4, 2, 0)), (1996, 1998, (.istore 6, 2), (6, 0, 0, 0)), (1998, 1999, (.aload_n 2, 1), (2, 0, 0, 0)), (1999, 2000, (.aload_n 0, 1), (0, 0, 0, 0)), (2000, 2002, (.iload 5, 2), (5, 0, 0, 0)), (2002, 2003, (.iconst 1, 1), (0, 0, 0, 0)), (2003, 2004, (.iadd, 1), (0, 0, 0, 0)), (2004, 2005, (.iaload, 1), (12, 0, 0, 0)), (2005, 2006, (.aload_n 0, 1), (0, 0, 0, 0)), (2006, 2008, (.iload 5, 2), (5, 0, 0, 0)), (2008, 2009, (.iconst 2, 1), (0, 0, 0, 0)), (2009, 2010, (.iadd, 1), (0, 0, 0, 0)), (2010, 2011, (.iaload, 1), (12, 0, 0, 0)), (2011, 2014, (.invokevirtual 249, 3), (196, 2, 0, 7)), (2014, 2016, (.istore 7, 2), (7, 0, 0, 0)), (2016, 2017, (.aload_n 2, 1), (2, 0, 0, 0)), (2017, 2020, (.invokevirtual 153, 3), (124, 0, 0, 7)), (2020, 2022, (.iload 6, 2), (6, 0, 0, 0)), (2022, 2025, (.if_icmp .eq 5, 3), (2027, 0, 0, 0)), (2025, 2026, (.iconst 0, 1), (0, 0, 0, 0)), (2026, 2027, (.ireturn, 1), (0, 0, 0, 0)), (2027, 2029, (.iload 6, 2), (6, 0, 0, 0)), (2029, 2032, (.ifCond .ne 15, 3), (2044, 0, 0, 0)), (2032, 2033, (.aload_n 3, 1), (3, 0, 0, 0))]
def ml_L_law_12 : List mg_E := [(2033, 2034, (.iconst 0, 1), (0, 0, 0, 0)), (2034, 2035, (.laload, 1), (0, 0, 0, 0)), (2035, 2037, (.iload 7, 2), (7, 0, 0, 0)), (2037, 2038, (.i2l, 1), (0, 0, 0, 0)), (2038, 2039, (.lcmp, 1), (0, 0, 0, 0)), (2039, 2042, (.ifCond .eq 5, 3), (2044, 0, 0, 0)), (2042, 2043, (.iconst 0, 1), (0, 0, 0, 0)), (2043, 2044, (.ireturn, 1), (0, 0, 0, 0)), (2044, 2047, (.goto 461, 3), (2505, 0, 0, 0)), (2047, 2048, (.aload_n 1, 1), (1, 0, 0, 0)), (2048, 2049, (.aload_n 0, 1), (0, 0, 0, 0)), (2049, 2051, (.iload 5, 2), (5, 0, 0, 0)), (2051, 2052, (.iconst 1, 1), (0, 0, 0, 0)), (2052, 2053, (.iadd, 1), (0, 0, 0, 0)), (2053, 2054, (.iaload, 1), (12, 0, 0, 0)), (2054, 2055, (.aload_n 0, 1), (0, 0, 0, 0)), (2055, 2057, (.iload 5, 2), (5, 0, 0, 0)), (2057, 2058, (.iconst 2, 1), (0, 0, 0, 0)), (2058, 2059, (.iadd, 1), (0, 0, 0, 0)), (2059, 2060, (.iaload, 1), (12, 0, 0, 0)), (2060, 2061, (.aload_n 3, 1), (3, 0, 0, 0)), (2061, 2064, (.invokestatic 250, 3), (233, 4, 2, 0)), (2064, 2066, (.istore 6, 2), (6, 0, 0, 0)), (2066, 2067, (.aload_n 2, 1), (2, 0, 0, 0)), (2067, 2068, (.aload_n 0, 1), (0, 0, 0, 0)), (2068, 2070, (.iload 5, 2), (5, 0, 0, 0)), (2070, 2071, (.iconst 1, 1), (0, 0, 0, 0)), (2071, 2072, (.iadd, 1), (0, 0, 0, 0)), (2072, 2073, (.iaload, 1), (12, 0, 0, 0)), (2073, 2074, (.aload_n 0, 1), (0, 0, 0, 0)), (2074, 2076, (.iload 5, 2), (5, 0, 0, 0)), (2076, 2077, (.iconst 2, 1), (0, 0, 0, 0)), (2077, 2078, (.iadd, 1), (0, 0, 0, 0)), (2078, 2079, (.iaload, 1), (12, 0, 0, 0)), (2079, 2082, (.invokevirtual 252, 3), (197, 2, 0, 7)), (2082, 2084, (.istore 7, 2), (7, 0, 0, 0)), (2084, 2085, (.aload_n 2, 1), (2, 0, 0, 0)), (2085, 2088, (.invokevirtual 153, 3), (124, 0, 0, 7)), (2088, 2090, (.iload 6, 2), (6, 0, 0, 0)), (2090, 2093, (.if_icmp .eq 5, 3), (2095, 0, 0, 0)), (2093, 2094, (.iconst 0, 1), (0, 0, 0, 0)), (2094, 2095, (.ireturn, 1), (0, 0, 0, 0)), (2095, 2097, (.iload 6, 2), (6, 0, 0, 0)), (2097, 2100, (.ifCond .ne 15, 3), (2112, 0, 0, 0)), (2100, 2101, (.aload_n 3, 1), (3, 0, 0, 0)), (2101, 2102, (.iconst 0, 1), (0, 0, 0, 0)), (2102, 2103, (.laload, 1), (0, 0, 0, 0)), (2103, 2105, (.iload 7, 2), (7, 0, 0, 0)), (2105, 2106, (.i2l, 1), (0, 0, 0, 0)), (2106, 2107, (.lcmp, 1), (0, 0, 0, 0)), (2107, 2110, (.ifCond .eq 5, 3), (2112, 0, 0, 0)), (2110, 2111, (.iconst 0, 1), (0, 0, 0, 0)), (2111, 2112, (.ireturn, 1), (0, 0, 0, 0)), (2112, 2115, (.goto 393, 3), (2505, 0, 0, 0)), (2115, 2116, (.aload_n 1, 1), (1, 0, 0, 0)), (2116, 2117, (.aload_n 0, 1), (0, 0, 0, 0)), (2117, 2119, (.iload 5, 2), (5, 0, 0, 0)), (2119, 2120, (.iconst 1, 1), (0, 0, 0, 0)), (2120, 2121, (.iadd, 1), (0, 0, 0, 0)), (2121, 2122, (.iaload, 1), (12, 0, 0, 0)), (2122, 2123, (.aload_n 0, 1), (0, 0, 0, 0)), (2123, 2125, (.iload 5, 2), (5, 0, 0, 0)), (2125, 2126, (.iconst 2, 1), (0, 0, 0, 0)), (2126, 2127, (.iadd, 1), (0, 0, 0, 0)), (2127, 2128, (.iaload, 1), (12, 0, 0, 0)), (2128, 2129, (.aload_n 3, 1), (3, 0, 0, 0)), (2129, 2132, (.invokestatic 253, 3), (234, 4, 3, 0)), (2132, 2134, (.istore 6, 2), (6, 0, 0, 0)), (2134, 2135, (.aload_n 2, 1), (2, 0, 0, 0)), (2135, 2136, (.aload_n 0, 1), (0, 0, 0, 0)), (2136, 2138, (.iload 5, 2), (5, 0, 0, 0)), (2138, 2139, (.iconst 1, 1), (0, 0, 0, 0)), (2139, 2140, (.iadd, 1), (0, 0, 0, 0)), (2140, 2141, (.iaload, 1), (12, 0, 0, 0)), (2141, 2142, (.aload_n 0, 1), (0, 0, 0, 0)), (2142, 2144, (.iload 5, 2), (5, 0, 0, 0)), (2144, 2145, (.iconst 2, 1), (0, 0, 0, 0)), (2145, 2146, (.iadd, 1), (0, 0, 0, 0)), (2146, 2147, (.iaload, 1), (12, 0, 0, 0)), (2147, 2150, (.invokevirtual 255, 3), (198, 2, 0, 7)), (2150, 2152, (.istore 7, 2), (7, 0, 0, 0)), (2152, 2153, (.aload_n 2, 1), (2, 0, 0, 0)), (2153, 2156, (.invokevirtual 153, 3), (124, 0, 0, 7)), (2156, 2158, (.iload 6, 2), (6, 0, 0, 0)), (2158, 2161, (.if_icmp .eq 5, 3), (2163, 0, 0, 0)), (2161, 2162, (.iconst 0, 1), (0, 0, 0, 0)), (2162, 2163, (.ireturn, 1), (0, 0, 0, 0)), (2163, 2165, (.iload 6, 2), (6, 0, 0, 0)), (2165, 2168, (.ifCond .ne 15, 3), (2180, 0, 0, 0)), (2168, 2169, (.aload_n 3, 1), (3, 0, 0, 0)), (2169, 2170, (.iconst 0, 1), (0, 0, 0, 0)), (2170, 2171, (.laload, 1), (0, 0, 0, 0)), (2171, 2173, (.iload 7, 2), (7, 0, 0, 0)), (2173, 2174, (.i2l, 1), (0, 0, 0, 0)), (2174, 2175, (.lcmp, 1), (0, 0, 0, 0)), (2175, 2178, (.ifCond .eq 5, 3), (2180, 0, 0, 0)), (2178, 2179, (.iconst 0, 1), (0, 0, 0, 0)), (2179, 2180, (.ireturn, 1), (0, 0, 0, 0)), (2180, 2183, (.goto 325, 3), (2505, 0, 0, 0)), (2183, 2184, (.aload_n 1, 1), (1, 0, 0, 0))]
def ml_L_law_13 : List mg_E := [(2184, 2185, (.aload_n 0, 1), (0, 0, 0, 0)), (2185, 2187, (.iload 5, 2), (5, 0, 0, 0)), (2187, 2188, (.iconst 1, 1), (0, 0, 0, 0)), (2188, 2189, (.iadd, 1), (0, 0, 0, 0)), (2189, 2190, (.iaload, 1), (12, 0, 0, 0)), (2190, 2191, (.aload_n 0, 1), (0, 0, 0, 0)), (2191, 2193, (.iload 5, 2), (5, 0, 0, 0)), (2193, 2194, (.iconst 2, 1), (0, 0, 0, 0)), (2194, 2195, (.iadd, 1), (0, 0, 0, 0)), (2195, 2196, (.iaload, 1), (12, 0, 0, 0)), (2196, 2197, (.aload_n 3, 1), (3, 0, 0, 0)), (2197, 2200, (.invokestatic 256, 3), (235, 4, 2, 0)), (2200, 2202, (.istore 6, 2), (6, 0, 0, 0)), (2202, 2203, (.aload_n 2, 1), (2, 0, 0, 0)), (2203, 2204, (.aload_n 0, 1), (0, 0, 0, 0)), (2204, 2206, (.iload 5, 2), (5, 0, 0, 0)), (2206, 2207, (.iconst 1, 1), (0, 0, 0, 0)), (2207, 2208, (.iadd, 1), (0, 0, 0, 0)), (2208, 2209, (.iaload, 1), (12, 0, 0, 0)), (2209, 2210, (.aload_n 0, 1), (0, 0, 0, 0)), (2210, 2212, (.iload 5, 2), (5, 0, 0, 0)), (2212, 2213, (.iconst 2, 1), (0, 0, 0, 0)), (2213, 2214, (.iadd, 1), (0, 0, 0, 0)), (2214, 2215, (.iaload, 1), (12, 0, 0, 0)), (2215, 2218, (.invokevirtual 258, 3), (199, 2, 0, 7)), (2218, 2220, (.istore 7, 2), (7, 0, 0, 0)), (2220, 2221, (.aload_n 2, 1), (2, 0, 0, 0)), (2221, 2224, (.invokevirtual 153, 3), (124, 0, 0, 7)), (2224, 2226, (.iload 6, 2), (6, 0, 0, 0)), (2226, 2229, (.if_icmp .eq 5, 3), (2231, 0, 0, 0)), (2229, 2230, (.iconst 0, 1), (0, 0, 0, 0)), (2230, 2231, (.ireturn, 1), (0, 0, 0, 0)), (2231, 2233, (.iload 6, 2), (6, 0, 0, 0)), (2233, 2236, (.ifCond .ne 15, 3), (2248, 0, 0, 0)), (2236, 2237, (.aload_n 3, 1), (3, 0, 0, 0)), (2237, 2238, (.iconst 0, 1), (0, 0, 0, 0)), (2238, 2239, (.laload, 1), (0, 0, 0, 0)), (2239, 2241, (.iload 7, 2), (7, 0, 0, 0)), (2241, 2242, (.i2l, 1), (0, 0, 0, 0)), (2242, 2243, (.lcmp, 1), (0, 0, 0, 0)), (2243, 2246, (.ifCond .eq 5, 3), (2248, 0, 0, 0)), (2246, 2247, (.iconst 0, 1), (0, 0, 0, 0)), (2247, 2248, (.ireturn, 1), (0, 0, 0, 0)), (2248, 2251, (.goto 257, 3), (2505, 0, 0, 0)), (2251, 2252, (.aload_n 1, 1), (1, 0, 0, 0)), (2252, 2253, (.aload_n 0, 1), (0, 0, 0, 0)), (2253, 2255, (.iload 5, 2), (5, 0, 0, 0)), (2255, 2256, (.iconst 1, 1), (0, 0, 0, 0)), (2256, 2257, (.iadd, 1), (0, 0, 0, 0)), (2257, 2258, (.iaload, 1), (12, 0, 0, 0)), (2258, 2259, (.aload_n 0, 1), (0, 0, 0, 0)), (2259, 2261, (.iload 5, 2), (5, 0, 0, 0)), (2261, 2262, (.iconst 2, 1), (0, 0, 0, 0)), (2262, 2263, (.iadd, 1), (0, 0, 0, 0)), (2263, 2264, (.iaload, 1), (12, 0, 0, 0)), (2264, 2265, (.aload_n 3, 1), (3, 0, 0, 0)), (2265, 2268, (.invokestatic 259, 3), (236, 4, 1, 0)), (2268, 2270, (.istore 6, 2), (6, 0, 0, 0)), (2270, 2271, (.aload_n 2, 1), (2, 0, 0, 0)), (2271, 2272, (.aload_n 0, 1), (0, 0, 0, 0)), (2272, 2274, (.iload 5, 2), (5, 0, 0, 0)), (2274, 2275, (.iconst 1, 1), (0, 0, 0, 0)), (2275, 2276, (.iadd, 1), (0, 0, 0, 0)), (2276, 2277, (.iaload, 1), (12, 0, 0, 0)), (2277, 2278, (.aload_n 0, 1), (0, 0, 0, 0)), (2278, 2280, (.iload 5, 2), (5, 0, 0, 0)), (2280, 2281, (.iconst 2, 1), (0, 0, 0, 0)), (2281, 2282, (.iadd, 1), (0, 0, 0, 0)), (2282, 2283, (.iaload, 1), (12, 0, 0, 0)), (2283, 2286, (.invokevirtual 261, 3), (200, 2, 0, 7)), (2286, 2288, (.istore 7, 2), (7, 0, 0, 0)), (2288, 2289, (.aload_n 2, 1), (2, 0, 0, 0)), (2289, 2292, (.invokevirtual 153, 3), (124, 0, 0, 7)), (2292, 2294, (.iload 6, 2), (6, 0, 0, 0)), (2294, 2297, (.if_icmp .eq 5, 3), (2299, 0, 0, 0)), (2297, 2298, (.iconst 0, 1), (0, 0, 0, 0)), (2298, 2299, (.ireturn, 1), (0, 0, 0, 0)), (2299, 2301, (.iload 6, 2), (6, 0, 0, 0)), (2301, 2304, (.ifCond .ne 15, 3), (2316, 0, 0, 0)), (2304, 2305, (.aload_n 3, 1), (3, 0, 0, 0)), (2305, 2306, (.iconst 0, 1), (0, 0, 0, 0)), (2306, 2307, (.laload, 1), (0, 0, 0, 0)), (2307, 2309, (.iload 7, 2), (7, 0, 0, 0)), (2309, 2310, (.i2l, 1), (0, 0, 0, 0)), (2310, 2311, (.lcmp, 1), (0, 0, 0, 0)), (2311, 2314, (.ifCond .eq 5, 3), (2316, 0, 0, 0)), (2314, 2315, (.iconst 0, 1), (0, 0, 0, 0)), (2315, 2316, (.ireturn, 1), (0, 0, 0, 0)), (2316, 2319, (.goto 189, 3), (2505, 0, 0, 0)), (2319, 2320, (.aload_n 1, 1), (1, 0, 0, 0)), (2320, 2321, (.aload_n 3, 1), (3, 0, 0, 0)), (2321, 2324, (.invokestatic 262, 3), (237, 2, 1, 0)), (2324, 2326, (.istore 6, 2), (6, 0, 0, 0)), (2326, 2327, (.aload_n 2, 1), (2, 0, 0, 0)), (2327, 2330, (.invokevirtual 264, 3), (202, 0, 0, 7)), (2330, 2332, (.istore 7, 2), (7, 0, 0, 0)), (2332, 2333, (.aload_n 2, 1), (2, 0, 0, 0)), (2333, 2336, (.invokevirtual 153, 3), (124, 0, 0, 7)), (2336, 2338, (.iload 6, 2), (6, 0, 0, 0)), (2338, 2341, (.if_icmp .eq 5, 3), (2343, 0, 0, 0))]
def ml_L_law_14 : List mg_E := [(2341, 2342, (.iconst 0, 1), (0, 0, 0, 0)), (2342, 2343, (.ireturn, 1), (0, 0, 0, 0)), (2343, 2345, (.iload 6, 2), (6, 0, 0, 0)), (2345, 2348, (.ifCond .ne 22, 3), (2367, 0, 0, 0)), (2348, 2349, (.aload_n 3, 1), (3, 0, 0, 0)), (2349, 2350, (.iconst 0, 1), (0, 0, 0, 0)), (2350, 2351, (.laload, 1), (0, 0, 0, 0)), (2351, 2353, (.iload 7, 2), (7, 0, 0, 0)), (2353, 2356, (.ifCond .eq 7, 3), (2360, 0, 0, 0)), (2356, 2357, (.lconst 1, 1), (1, 0, 0, 0)), (2357, 2360, (.goto 4, 3), (2361, 0, 0, 0)), (2360, 2361, (.lconst 0, 1), (0, 0, 0, 0)), (2361, 2362, (.lcmp, 1), (0, 0, 0, 0)), (2362, 2365, (.ifCond .eq 5, 3), (2367, 0, 0, 0)), (2365, 2366, (.iconst 0, 1), (0, 0, 0, 0)), (2366, 2367, (.ireturn, 1), (0, 0, 0, 0)), (2367, 2370, (.goto 138, 3), (2505, 0, 0, 0)), (2370, 2371, (.aload_n 1, 1), (1, 0, 0, 0)), (2371, 2374, (.invokevirtual 265, 3), (110, 0, 0, 6)), (2374, 2375, (.aload_n 2, 1), (2, 0, 0, 0)), (2375, 2378, (.invokevirtual 269, 3), (203, 0, 0, 7)), (2378, 2379, (.lcmp, 1), (0, 0, 0, 0)), (2379, 2382, (.ifCond .eq 126, 3), (2505, 0, 0, 0)), (2382, 2383, (.iconst 0, 1), (0, 0, 0, 0)), (2383, 2384, (.ireturn, 1), (0, 0, 0, 0)), (2384, 2385, (.aload_n 1, 1), (1, 0, 0, 0)), (2385, 2387, (.aload 4, 2), (4, 0, 0, 0)), (2387, 2390, (.invokestatic 270, 3), (238, 2, 1, 0)), (2390, 2392, (.istore 6, 2), (6, 0, 0, 0)), (2392, 2393, (.aload_n 2, 1), (2, 0, 0, 0)), (2393, 2396, (.invokevirtual 273, 3), (204, 0, 0, 7)), (2396, 2398, (.dstore 7, 2), (7, 0, 0, 0)), (2398, 2399, (.aload_n 2, 1), (2, 0, 0, 0)), (2399, 2402, (.invokevirtual 153, 3), (124, 0, 0, 7)), (2402, 2404, (.iload 6, 2), (6, 0, 0, 0)), (2404, 2407, (.if_icmp .eq 5, 3), (2409, 0, 0, 0)), (2407, 2408, (.iconst 0, 1), (0, 0, 0, 0)), (2408, 2409, (.ireturn, 1), (0, 0, 0, 0)), (2409, 2411, (.iload 6, 2), (6, 0, 0, 0)), (2411, 2414, (.ifCond .ne 35, 3), (2446, 0, 0, 0)), (2414, 2416, (.aload 4, 2), (4, 0, 0, 0)), (2416, 2417, (.iconst 0, 1), (0, 0, 0, 0)), (2417, 2418, (.daload, 1), (0, 0, 0, 0)), (2418, 2420, (.dload 7, 2), (7, 0, 0, 0)), (2420, 2421, (.dcmp .l, 1), (0, 0, 0, 0)), (2421, 2424, (.ifCond .eq 25, 3), (2446, 0, 0, 0)), (2424, 2426, (.aload 4, 2), (4, 0, 0, 0)), (2426, 2427, (.iconst 0, 1), (0, 0, 0, 0)), (2427, 2428, (.daload, 1), (0, 0, 0, 0)), (2428, 2430, (.aload 4, 2), (4, 0, 0, 0)), (2430, 2431, (.iconst 0, 1), (0, 0, 0, 0)), (2431, 2432, (.daload, 1), (0, 0, 0, 0)), (2432, 2433, (.dcmp .l, 1), (0, 0, 0, 0)), (2433, 2436, (.ifCond .eq 11, 3), (2444, 0, 0, 0)), (2436, 2438, (.dload 7, 2), (7, 0, 0, 0)), (2438, 2440, (.dload 7, 2), (7, 0, 0, 0)), (2440, 2441, (.dcmp .l, 1), (0, 0, 0, 0)), (2441, 2444, (.ifCond .ne 5, 3), (2446, 0, 0, 0)), (2444, 2445, (.iconst 0, 1), (0, 0, 0, 0)), (2445, 2446, (.ireturn, 1), (0, 0, 0, 0)), (2446, 2449, (.goto 59, 3), (2505, 0, 0, 0)), (2449, 2450, (.aload_n 1, 1), (1, 0, 0, 0)), (2450, 2453, (.invokevirtual 274, 3), (112, 0, 0, 6)), (2453, 2454, (.f2d, 1), (0, 0, 0, 0)), (2454, 2456, (.dstore 6, 2), (6, 0, 0, 0)), (2456, 2457, (.aload_n 2, 1), (2, 0, 0, 0)), (2457, 2460, (.invokevirtual 278, 3), (205, 0, 0, 7)), (2460, 2461, (.f2d, 1), (0, 0, 0, 0)), (2461, 2463, (.dstore 8, 2), (8, 0, 0, 0)), (2463, 2465, (.dload 6, 2), (6, 0, 0, 0)), (2465, 2467, (.dload 8, 2), (8, 0, 0, 0)), (2467, 2468, (.dcmp .l, 1), (0, 0, 0, 0)), (2468, 2471, (.ifCond .eq 21, 3), (2489, 0, 0, 0)), (2471, 2473, (.dload 6, 2), (6, 0, 0, 0)), (2473, 2475, (.dload 6, 2), (6, 0, 0, 0)), (2475, 2476, (.dcmp .l, 1), (0, 0, 0, 0)), (2476, 2479, (.ifCond .eq 11, 3), (2487, 0, 0, 0)), (2479, 2481, (.dload 8, 2), (8, 0, 0, 0)), (2481, 2483, (.dload 8, 2), (8, 0, 0, 0)), (2483, 2484, (.dcmp .l, 1), (0, 0, 0, 0)), (2484, 2487, (.ifCond .ne 5, 3), (2489, 0, 0, 0)), (2487, 2488, (.iconst 0, 1), (0, 0, 0, 0)), (2488, 2489, (.ireturn, 1), (0, 0, 0, 0)), (2489, 2492, (.goto 16, 3), (2505, 0, 0, 0)), (2492, 2493, (.aload_n 1, 1), (1, 0, 0, 0)), (2493, 2496, (.invokevirtual 279, 3), (113, 0, 0, 6)), (2496, 2497, (.aload_n 2, 1), (2, 0, 0, 0)), (2497, 2500, (.invokevirtual 282, 3), (206, 0, 0, 7)), (2500, 2503, (.if_icmp .eq 5, 3), (2505, 0, 0, 0)), (2503, 2504, (.iconst 0, 1), (0, 0, 0, 0)), (2504, 2505, (.ireturn, 1), (0, 0, 0, 0)), (2505, 2508, (.iinc 5 5, 3), (5, 0, 0, 0)), (2508, 2511, (.goto (-2480), 3), (28, 0, 0, 0)), (2511, 2512, (.iconst 1, 1), (0, 0, 0, 0)), (2512, 2513, (.ireturn, 1), (0, 0, 0, 0))]
def mc_L_law : mg_C := (ml_L_law_0 ++ (ml_L_law_1 ++ (ml_L_law_2 ++ (ml_L_law_3 ++ (ml_L_law_4 ++ (ml_L_law_5 ++ (ml_L_law_6 ++ (ml_L_law_7 ++ (ml_L_law_8 ++ (ml_L_law_9 ++ (ml_L_law_10 ++ (ml_L_law_11 ++ (ml_L_law_12 ++ (ml_L_law_13 ++ (ml_L_law_14)))))))))))))), [(28, [0, 1, 2, 3, 4, 5])], [], (2, 9), [228, 241, 254, 267, 280, 336, 392, 448, 504, 572, 640, 708, 776, 844, 912, 980, 1060, 1116, 1208, 1266, 1279, 1371, 1415, 1497, 1541, 1554, 1646, 1702, 1715, 1799, 1855, 1911, 1979, 2047, 2115, 2183, 2251, 2319, 2370, 2384, 2449, 2492])
end
section
/-! the abstract memory: the next address, kinds and lengths; ints, references (0: null), longs and doubles by address and place -/
abbrev mg_V : Type := Int ⊕ (Nat ⊕ (Int ⊕ (UInt64 ⊕ UInt32)))
abbrev mg_L : Type := List (Nat × mg_V)
abbrev mg_M : Type := (Nat × (Nat → Nat) × (Nat → Nat)) × (Nat → Nat → Int) × (Nat → Nat → Nat) × (Nat → Nat → Int) × (Nat → Nat → UInt64)
def nx (M : mg_M) : Nat := M.1.1
def kd (M : mg_M) (a : Nat) : Nat := M.1.2.1 a
def ln (M : mg_M) (a : Nat) : Nat := M.1.2.2 a
def gi (M : mg_M) (a k : Nat) : Int := M.2.1 a k
def gr (M : mg_M) (a k : Nat) : Nat := M.2.2.1 a k
def gl (M : mg_M) (a k : Nat) : Int := M.2.2.2.1 a k
def gd (M : mg_M) (a k : Nat) : UInt64 := M.2.2.2.2 a k
def si (M : mg_M) (a k : Nat) (x : Int) : mg_M := (M.1, (fun b j => if b = a ∧ j = k then x else M.2.1 b j), M.2.2)
def sr (M : mg_M) (a k : Nat) (x : Nat) : mg_M := (M.1, M.2.1, (fun b j => if b = a ∧ j = k then x else M.2.2.1 b j), M.2.2.2)
def sl (M : mg_M) (a k : Nat) (x : Int) : mg_M := (M.1, M.2.1, M.2.2.1, (fun b j => if b = a ∧ j = k then x else M.2.2.2.1 b j), M.2.2.2.2)
def sd (M : mg_M) (a k : Nat) (x : UInt64) : mg_M := (M.1, M.2.1, M.2.2.1, M.2.2.2.1, (fun b j => if b = a ∧ j = k then x else M.2.2.2.2 b j))
/-- n ints are copied from the front of one row to the front of another -/
def cpy (M : mg_M) (s d n : Nat) : mg_M := (M.1, (fun b j => if b = d ∧ j < n then M.2.1 s j else M.2.1 b j), M.2.2)
/-- a new thing of a kind and a length at the next address, all blank -/
def al (M : mg_M) (c n : Nat) : mg_M := ((M.1.1 + 1, (fun b => if b = M.1.1 then c else M.1.2.1 b), (fun b => if b = M.1.1 then n else M.1.2.2 b)), (fun b j => if b = M.1.1 then 0 else M.2.1 b j), (fun b j => if b = M.1.1 then 0 else M.2.2.1 b j), (fun b j => if b = M.1.1 then 0 else M.2.2.2.1 b j), (fun b j => if b = M.1.1 then 0 else M.2.2.2.2 b j))
/-- the next address is another one -/
def nxt (M : mg_M) (n : Nat) : mg_M := ((n, M.1.2), M.2)
/-! the walk of decoded code: what must hold for a run to come to its end -/
def mg_cat2 (v : mg_V) : Bool := match v with
  | .inr (.inr (.inl _)) => true
  | .inr (.inr (.inr (.inl _))) => true
  | _ => false
def mg_get : mg_L → Nat → (mg_V → Prop) → Prop
  | [], _, _ => False
  | (j, v) :: l, i, k => bif Nat.beq j i then k v else mg_get l i k
def mg_rem : mg_L → Nat → Bool → (mg_L → Prop) → Prop
  | [], _, _, k => k []
  | (j, v) :: l, i, w, k => bif (Nat.beq j i || (Nat.beq (j + 1) i && mg_cat2 v) || (w && Nat.beq j (i + 1))) then mg_rem l i w k else mg_rem l i w (fun l' => k ((j, v) :: l'))
def mg_pick : List Nat → mg_L → (mg_L → Prop) → Prop
  | [], _, k => k []
  | i :: is, l, k => mg_get l i (fun v => mg_pick is l (fun l' => k ((i, v) :: l')))
def mg_int (v : mg_V) (k : Int → Prop) : Prop := match v with
  | .inl x => k x
  | _ => False
def mg_ref (v : mg_V) (k : Nat → Prop) : Prop := match v with
  | .inr (.inl x) => k x
  | _ => False
def mg_lng (v : mg_V) (k : Int → Prop) : Prop := match v with
  | .inr (.inr (.inl x)) => k x
  | _ => False
def mg_dbl (v : mg_V) (k : UInt64 → Prop) : Prop := match v with
  | .inr (.inr (.inr (.inl x))) => k x
  | _ => False
def mg_pop : Nat → List mg_V → List mg_V → (List mg_V → List mg_V → Prop) → Prop
  | 0, acc, st, k => k acc st
  | n + 1, acc, v :: st, k => mg_pop n (v :: acc) st k
  | _ + 1, _, [], _ => False
def mg_seek : List mg_E → Nat → (Nat → Instr → Nat → Nat → Nat → Nat → Nat → Prop) → Prop
  | [], _, _ => False
  | (pc', nn, (i, len), (a, b, c, d)) :: l, pc, k => bif Nat.beq pc' pc then k nn i len a b c d else mg_seek l pc k
def mg_cut : List (Nat × List Nat) → Nat → (List Nat → Prop) → Prop → Prop
  | [], _, _, n => n
  | q :: l, pc, k, n => bif Nat.beq q.1 pc then k q.2 else mg_cut l pc k n
def mg_hand : List (Nat × Nat × Nat × Nat) → Nat → Nat → (Nat → Prop) → Prop → Prop
  | [], _, _, _, n => n
  | (a, b, h, c) :: l, pc, x, k, n => bif (Nat.ble a pc && Nat.blt pc b) && Nat.beq c x then k h else mg_hand l pc x k n
def mg_sw : List Nat → Int → Nat → (Nat → Prop) → Prop
  | [], _, _, _ => True
  | t :: ts, x, j, k => (x = (j : Int) → k t) ∧ mg_sw ts x (j + 1) k
abbrev mg_O : Type := Option mg_V → mg_M → Prop
abbrev mg_X : Type := Nat → mg_M → Prop
abbrev mg_K : Type := Nat → mg_L → List mg_V → mg_M → Nat → Prop
def mg_store (K : mg_K) (nx : Nat) (ls : mg_L) (st : List mg_V) (M : mg_M) (B : Nat) (i : Nat) (v : mg_V) : Prop := mg_rem ls i (mg_cat2 v) (fun l => K nx ((i, v) :: l) st M B)
def mg_if (op : Jvm.ClassFile.Cond) (x y : Int) (T F : Prop) : Prop := match op with
  | .eq => (x = y → T) ∧ (x ≠ y → F)
  | .ne => (x ≠ y → T) ∧ (x = y → F)
  | .lt => (x < y → T) ∧ (y ≤ x → F)
  | .ge => (y ≤ x → T) ∧ (x < y → F)
  | .gt => (y < x → T) ∧ (x ≤ y → F)
  | .le => (x ≤ y → T) ∧ (y < x → F)
/-- a call: the contract, what goes on behind it, what a thrown exception does -/
def mg_call (C : mg_C) (MT : Nat → List mg_V → mg_M → mg_O → mg_X → Prop) (Xo : mg_X) (K : mg_K) (pc nx a : Nat) (ls : mg_L) (args st : List mg_V) (M : mg_M) (B : Nat) : Prop :=
  bif Nat.ble st.length 4 then ∃ (N : mg_O) (X : mg_X), MT a args M N X ∧ (∀ v M', N v M' → K nx ls (v.toList ++ st) M' B) ∧
    (∀ k M', X k M' → mg_hand C.2.2.1 pc k (fun h => ∀ q : Nat, K h ls [.inr (.inl q)] M' B) (Xo k M')) else False
def mg_buy (c B : Nat) (k : Nat → Prop) : Prop := bif Nat.beq c 0 then k B else c ≤ B ∧ k (B - c)
def mg_step (C : mg_C) (MT : Nat → List mg_V → mg_M → mg_O → mg_X → Prop) (Q : mg_O) (Xo : mg_X) (K : mg_K) (pc nn : Nat) (i : Instr) (a b c d : Nat) (ls : mg_L) (st : List mg_V) (M : mg_M) (B : Nat) : Prop :=
  match i with
  | .iconst n => K nn ls (.inl n :: st) M B
  | .bipush n => K nn ls (.inl n :: st) M B
  | .sipush n => K nn ls (.inl n :: st) M B
  | .lconst _ => K nn ls (.inr (.inr (.inl (a : Int))) :: st) M B
  | .ldc2_w _ => K nn ls (.inr (.inr (.inl (a : Int))) :: st) M B
  | .fconst _ => K nn ls (.inr (.inr (.inr (.inr 0))) :: st) M B
  | .dconst _ => K nn ls (.inr (.inr (.inr (.inl 0))) :: st) M B
  | .iload_n _ => mg_get ls a (fun v => mg_int v fun x => K nn ls (.inl x :: st) M B)
  | .iload _ => mg_get ls a (fun v => mg_int v fun x => K nn ls (.inl x :: st) M B)
  | .aload_n _ => mg_get ls a (fun v => mg_ref v fun x => K nn ls (.inr (.inl x) :: st) M B)
  | .aload _ => mg_get ls a (fun v => mg_ref v fun x => K nn ls (.inr (.inl x) :: st) M B)
  | .lload_n _ => mg_get ls a (fun v => mg_lng v fun x => K nn ls (.inr (.inr (.inl x)) :: st) M B)
  | .lload _ => mg_get ls a (fun v => mg_lng v fun x => K nn ls (.inr (.inr (.inl x)) :: st) M B)
  | .dload_n _ => mg_get ls a (fun v => mg_dbl v fun x => K nn ls (.inr (.inr (.inr (.inl x))) :: st) M B)
  | .dload _ => mg_get ls a (fun v => mg_dbl v fun x => K nn ls (.inr (.inr (.inr (.inl x))) :: st) M B)
  | .istore_n _ => match st with
    | .inl x :: st => mg_store K nn ls st M B a (.inl x)
    | _ => False
  | .istore _ => match st with
    | .inl x :: st => mg_store K nn ls st M B a (.inl x)
    | _ => False
  | .astore_n _ => match st with
    | .inr (.inl x) :: st => mg_store K nn ls st M B a (.inr (.inl x))
    | _ => False
  | .astore _ => match st with
    | .inr (.inl x) :: st => mg_store K nn ls st M B a (.inr (.inl x))
    | _ => False
  | .lstore_n _ => match st with
    | .inr (.inr (.inl x)) :: st => mg_store K nn ls st M B a (.inr (.inr (.inl x)))
    | _ => False
  | .lstore _ => match st with
    | .inr (.inr (.inl x)) :: st => mg_store K nn ls st M B a (.inr (.inr (.inl x)))
    | _ => False
  | .dstore_n _ => match st with
    | .inr (.inr (.inr (.inl x))) :: st => mg_store K nn ls st M B a (.inr (.inr (.inr (.inl x))))
    | _ => False
  | .dstore _ => match st with
    | .inr (.inr (.inr (.inl x))) :: st => mg_store K nn ls st M B a (.inr (.inr (.inr (.inl x))))
    | _ => False
  | .iinc _ n => mg_get ls a (fun v => mg_int v fun x => (-2147483648 ≤ x + n ∧ x + n < 2147483648) ∧ mg_store K nn ls st M B a (.inl (x + n)))
  | .iadd => match st with
    | .inl y :: .inl x :: st => (-2147483648 ≤ x + y ∧ x + y < 2147483648) ∧ K nn ls (.inl (x + y) :: st) M B
    | _ => False
  | .isub => match st with
    | .inl y :: .inl x :: st => (-2147483648 ≤ x - y ∧ x - y < 2147483648) ∧ K nn ls (.inl (x - y) :: st) M B
    | _ => False
  | .imul => match st with
    | .inl y :: .inl x :: st => (-2147483648 ≤ x * y ∧ x * y < 2147483648) ∧ K nn ls (.inl (x * y) :: st) M B
    | _ => False
  | .idiv => match st with
    | .inl y :: .inl x :: st => (0 ≤ x ∧ 0 < y) ∧ K nn ls (.inl (x / y) :: st) M B
    | _ => False
  | .irem => match st with
    | .inl y :: .inl x :: st => (0 ≤ x ∧ 0 < y) ∧ K nn ls (.inl (x % y) :: st) M B
    | _ => False
  | .iand => match st with
    | .inl y :: .inl x :: st => y = 63 ∧ K nn ls (.inl (x % 64) :: st) M B
    | _ => False
  | .i2c => match st with
    | .inl x :: st => K nn ls (.inl (x % 65536) :: st) M B
    | _ => False
  | .i2l => match st with
    | .inl x :: st => K nn ls (.inr (.inr (.inl x)) :: st) M B
    | _ => False
  | .l2i => match st with
    | .inr (.inr (.inl x)) :: st => (-2147483648 ≤ x ∧ x < 2147483648) ∧ K nn ls (.inl x :: st) M B
    | _ => False
  | .ladd => match st with
    | .inr (.inr (.inl y)) :: .inr (.inr (.inl x)) :: st => (-9223372036854775808 ≤ x + y ∧ x + y < 9223372036854775808) ∧ K nn ls (.inr (.inr (.inl (x + y))) :: st) M B
    | _ => False
  | .lsub => match st with
    | .inr (.inr (.inl y)) :: .inr (.inr (.inl x)) :: st => (-9223372036854775808 ≤ x - y ∧ x - y < 9223372036854775808) ∧ K nn ls (.inr (.inr (.inl (x - y))) :: st) M B
    | _ => False
  | .lcmp => match st with
    | .inr (.inr (.inl y)) :: .inr (.inr (.inl x)) :: st => K nn ls (.inl (if x < y then -1 else if x = y then 0 else 1) :: st) M B
    | _ => False
  | .i2f => match st with
    | .inl x :: st => K nn ls (.inr (.inr (.inr (.inr (FP.i2f (Int32.ofInt x))))) :: st) M B
    | _ => False
  | .i2d => match st with
    | .inl x :: st => K nn ls (.inr (.inr (.inr (.inl (FP.i2d (Int32.ofInt x))))) :: st) M B
    | _ => False
  | .f2d => match st with
    | .inr (.inr (.inr (.inr x))) :: st => vf_n64 (FP.f2d x) ∧ K nn ls (.inr (.inr (.inr (.inl (FP.f2d x)))) :: st) M B
    | _ => False
  | .fdiv => match st with
    | .inr (.inr (.inr (.inr y))) :: .inr (.inr (.inr (.inr x))) :: st => vf_n32 (FP.fdiv x y) ∧ K nn ls (.inr (.inr (.inr (.inr (FP.fdiv x y)))) :: st) M B
    | _ => False
  | .ddiv => match st with
    | .inr (.inr (.inr (.inl y))) :: .inr (.inr (.inr (.inl x))) :: st => vf_n64 (FP.ddiv x y) ∧ K nn ls (.inr (.inr (.inr (.inl (FP.ddiv x y)))) :: st) M B
    | _ => False
  | .dcmp op => match st with
    | .inr (.inr (.inr (.inl y))) :: .inr (.inr (.inr (.inl x))) :: st => K nn ls (.inl (Op.cmpValue (FP.dcmp x y) op).toInt :: st) M B
    | _ => False
  | .dup => match st with
    | .inl x :: st => K nn ls (.inl x :: .inl x :: st) M B
    | .inr (.inl x) :: st => K nn ls (.inr (.inl x) :: .inr (.inl x) :: st) M B
    | _ => False
  | .dup2 => match st with
    | .inl x :: .inr (.inl y) :: st => K nn ls (.inl x :: .inr (.inl y) :: .inl x :: .inr (.inl y) :: st) M B
    | _ => False
  | .pop => match st with
    | .inl _ :: st => K nn ls st M B
    | .inr (.inl _) :: st => K nn ls st M B
    | _ => False
  | .ifCond op _ => match st with
    | .inl x :: st => mg_if op x 0 (K a ls st M B) (K nn ls st M B)
    | _ => False
  | .if_icmp op _ => match st with
    | .inl y :: .inl x :: st => mg_if op x y (K a ls st M B) (K nn ls st M B)
    | _ => False
  | .goto _ => K a ls st M B
  | .tableswitch _ _ _ _ => match st with
    | .inl x :: st => mg_sw C.2.2.2.2 x 0 (fun t => K t ls st M B) ∧ ((x < 0 ∨ (C.2.2.2.2.length : Int) ≤ x) → K a ls st M B)
    | _ => False
  | .getfield _ => match st with
    | .inr (.inl r) :: st => kd M r = a ∧ bif Nat.beq c 1 then gr M r b ≠ 0 ∧ K nn ls (.inr (.inl (gr M r b)) :: st) M B else K nn ls (.inl (gi M r b) :: st) M B
    | _ => False
  | .putfield _ => match st with
    | .inl x :: .inr (.inl r) :: st => kd M r = a ∧ bif Nat.beq c 2 then (x = 0 ∨ x = 1) ∧ K nn ls st (si M r b x) B else bif Nat.beq c 0 then K nn ls st (si M r b x) B else False
    | .inr (.inl x) :: .inr (.inl r) :: st => kd M r = a ∧ bif Nat.beq c 1 then x ≠ 0 ∧ K nn ls st (sr M r b x) B else False
    | _ => False
  | .iaload => match st with
    | .inl i :: .inr (.inl r) :: st => (kd M r = a ∧ 0 ≤ i ∧ i < ln M r) ∧ K nn ls (.inl (gi M r i.toNat) :: st) M B
    | _ => False
  | .aaload => match st with
    | .inl i :: .inr (.inl r) :: st => (kd M r = 9 ∧ 0 ≤ i ∧ i < ln M r) ∧ gr M r i.toNat ≠ 0 ∧ K nn ls (.inr (.inl (gr M r i.toNat)) :: st) M B
    | _ => False
  | .laload => match st with
    | .inl i :: .inr (.inl r) :: st => (kd M r = 10 ∧ 0 ≤ i ∧ i < ln M r) ∧ K nn ls (.inr (.inr (.inl (gl M r i.toNat))) :: st) M B
    | _ => False
  | .daload => match st with
    | .inl i :: .inr (.inl r) :: st => (kd M r = 11 ∧ 0 ≤ i ∧ i < ln M r) ∧ K nn ls (.inr (.inr (.inr (.inl (gd M r i.toNat)))) :: st) M B
    | _ => False
  | .iastore => match st with
    | .inl x :: .inl i :: .inr (.inl r) :: st => (kd M r = 8 ∧ 0 ≤ i ∧ i < ln M r) ∧ K nn ls st (si M r i.toNat x) B
    | _ => False
  | .aastore => match st with
    | .inr (.inl x) :: .inl i :: .inr (.inl r) :: st => (kd M r = 9 ∧ 0 ≤ i ∧ i < ln M r) ∧ kd M x = 3 ∧ K nn ls st (sr M r i.toNat x) B
    | _ => False
  | .lastore => match st with
    | .inr (.inr (.inl x)) :: .inl i :: .inr (.inl r) :: st => (kd M r = 10 ∧ 0 ≤ i ∧ i < ln M r) ∧ K nn ls st (sl M r i.toNat x) B
    | _ => False
  | .dastore => match st with
    | .inr (.inr (.inr (.inl x))) :: .inl i :: .inr (.inl r) :: st => (kd M r = 11 ∧ 0 ≤ i ∧ i < ln M r) ∧ K nn ls st (sd M r i.toNat x) B
    | _ => False
  | .arraylength => match st with
    | .inr (.inl r) :: st => kd M r = a ∧ ln M r < 2147483648 ∧ K nn ls (.inl (ln M r : Int) :: st) M B
    | _ => False
  | .newarray _ => match st with
    | .inl n :: st => (0 ≤ n ∧ n ≤ 160 ∧ 1 ≤ B) ∧ K nn ls (.inr (.inl (nx M)) :: st) (al M a n.toNat) (B - 1)
    | _ => False
  | .anewarray _ => match st with
    | .inl n :: st => (0 ≤ n ∧ n ≤ 160 ∧ 1 ≤ B) ∧ K nn ls (.inr (.inl (nx M)) :: st) (al M 9 n.toNat) (B - 1)
    | _ => False
  | .new _ => bif Nat.blt a 100 then 1 ≤ B ∧ K nn ls (.inr (.inl (nx M)) :: st) (al M a 0) (B - 1) else bif Nat.ble st.length 4 then 1 ≤ B ∧ ∀ n, nx M ≤ n → Xo (a - 100) (nxt M n) else False
  | .invokevirtual _ => mg_pop (b + 1) [] st (fun args st => match args with
    | .inr (.inl r) :: _ => kd M r = d ∧ mg_buy c B fun B => mg_call C MT Xo K pc nn a ls args st M B
    | _ => False)
  | .invokespecial _ => bif Nat.beq a 0 then (bif Nat.blt 7 st.length then False else match st with
    | .inr (.inl _) :: st => K nn ls st M B
    | _ => False) else mg_pop (b + 1) [] st (fun args st => match args with
    | .inr (.inl _) :: _ => mg_buy c B fun B => mg_call C MT Xo K pc nn a ls args st M B
    | _ => False)
  | .invokestatic _ => bif Nat.blt a 1000 then mg_pop b [] st (fun args st => mg_buy c B fun B => mg_call C MT Xo K pc nn a ls args st M B)
    else bif Nat.blt 9 st.length then False else bif Nat.beq a 1002 then (match st with
      | .inl n :: .inl dp :: .inr (.inl t) :: .inl sp :: .inr (.inl s) :: st => (sp = 0 ∧ dp = 0 ∧ 0 ≤ n ∧ kd M s = 8 ∧ kd M t = 8 ∧ n ≤ ln M s ∧ n ≤ ln M t) ∧ K nn ls st (cpy M s t n.toNat) B
      | _ => False)
    else (match st with
      | .inl y :: .inl x :: st => bif Nat.beq a 1000 then K nn ls (.inl (max x y) :: st) M B else K nn ls (.inl (min x y) :: st) M B
      | _ => False)
  | .ireturn => match st with
    | [.inl x] => bif Nat.beq C.2.2.2.1.1 2 then (x = 0 ∨ x = 1) ∧ Q (some (.inl x)) M else Q (some (.inl x)) M
    | _ => False
  | .areturn => match st with
    | [.inr (.inl x)] => Q (some (.inr (.inl x))) M
    | _ => False
  | .lreturn => match st with
    | [.inr (.inr (.inl x))] => Q (some (.inr (.inr (.inl x)))) M
    | _ => False
  | .dreturn => match st with
    | [.inr (.inr (.inr (.inl x)))] => Q (some (.inr (.inr (.inr (.inl x))))) M
    | _ => False
  | .freturn => match st with
    | [.inr (.inr (.inr (.inr x)))] => Q (some (.inr (.inr (.inr (.inr x))))) M
    | _ => False
  | .return_ => match st with
    | [] => Q none M
    | _ => False
  | _ => False
def mg_ev (C : mg_C) (MT : Nat → List mg_V → mg_M → mg_O → mg_X → Prop) (Q : mg_O) (Xo : mg_X) (X : mg_K) : Nat → Bool → mg_K
  | 0, _, _, _, _, _, _ => False
  | n + 1, fl, pc, ls, st, M, B =>
    bif fl then mg_cut C.2.1 pc (fun live => mg_pick live ls (fun l => X pc l st M B)) (mg_seek C.1 pc fun nn i _ a b c d => mg_step C MT Q Xo (fun pc ls st M B => mg_ev C MT Q Xo X n true pc ls st M B) pc nn i a b c d ls st M B)
    else mg_seek C.1 pc fun nn i _ a b c d => mg_step C MT Q Xo (fun pc ls st M B => mg_ev C MT Q Xo X n true pc ls st M B) pc nn i a b c d ls st M B
end
section
/-! how the abstract memory lies in the machine's heap; one row an instruction -/
abbrev mg_D : Type := (Nat → ClassId) × (Nat → Nat → Nat) × (Nat → ClassId) × Nat
def mg_tv (v : mg_V) : Value := match v with
  | .inl x => .int (Int32.ofInt x)
  | .inr (.inl a) => .ref a
  | .inr (.inr (.inl x)) => .long (Int64.ofInt x)
  | .inr (.inr (.inr (.inl x))) => .double x
  | .inr (.inr (.inr (.inr x))) => .float x
def mg_ok (v : mg_V) : Prop := match v with
  | .inl x => -2147483648 ≤ x ∧ x < 2147483648
  | .inr (.inr (.inl x)) => -9223372036854775808 ≤ x ∧ x < 9223372036854775808
  | _ => True
def mg_rO (n : Nat) : Option Nat := if n = 0 then none else some n
def mg_fv (M : mg_M) (a c k : Nat) : Value := match mg_ty c k with
  | .int => .int (Int32.ofInt (gi M a k))
  | .boolean => .int (Int32.ofInt (gi M a k))
  | _ => va_rf (mg_rO (gr M a k))
def mg_fs (M : mg_M) (a c : Nat) : List Value := (List.range (mg_N c)).map (mg_fv M a c)
def mg_cF (D : mg_D) (M : mg_M) (a : Nat) : va_E :=
  if kd M a ≤ 7 then .inr (kd M a - 1, mg_fs M a (kd M a))
  else if kd M a = 8 then .inl (D.2.2.1 8, ln M a, .inl (fun j => Int32.ofInt (gi M a j)))
  else if kd M a = 9 then .inl (D.2.2.1 9, ln M a, .inr (.inr (.inr (.inr (fun j => mg_rO (gr M a j))))))
  else if kd M a = 10 then .inl (D.2.2.1 10, ln M a, .inr (.inl (fun j => Int64.ofInt (gl M a j))))
  else .inl (D.2.2.1 11, ln M a, .inr (.inr (.inr (.inl (fun j => gd M a j)))))
abbrev mg_tys (D : mg_D) : List (ClassId × FieldType) := [(D.2.2.1 8, .int), (D.2.2.1 9, .object "MergeGrid$Cell"), (D.2.2.1 10, .long), (D.2.2.1 11, .double)]
def mg_A (D : mg_D) : Nat → Prop := fun q => D.2.2.2 ≤ q
def mg_H (D : mg_D) (M : mg_M) (U : State) (H : Heap) : Prop :=
  nx M = H.size ∧ D.2.2.2 ≤ H.size ∧ 0 < D.2.2.2 ∧ (∀ a, 0 < kd M a → kd M a ≤ 11 → va_at (D.1, D.2.1) mg_cl (a, mg_cF D M a) H ∧ D.2.2.2 ≤ a) ∧
  (∀ a, kd M a = 12 → va_X a (ln M a) (fun j => Int32.ofInt (gi M a j)) U H ∧ a < D.2.2.2) ∧ (∀ a, kd M a ≤ 12) ∧
  (∀ a k, -2147483648 ≤ gi M a k ∧ gi M a k < 2147483648) ∧ (∀ a k, -9223372036854775808 ≤ gl M a k ∧ gl M a k < 9223372036854775808)
/-! numbers -/
theorem mg_toI {x : Int} (h : -2147483648 ≤ x) (h2 : x < 2147483648) : (Int32.ofInt x).toInt = x := by
  rw [Int32.toInt_ofInt]
  exact Int.bmod_eq_of_le (by simpa using h) (by simpa using h2)
theorem mg_lt {x y : Int} (hx : -2147483648 ≤ x ∧ x < 2147483648) (hy : -2147483648 ≤ y ∧ y < 2147483648) : Int32.ofInt x < Int32.ofInt y ↔ x < y := by
  rw [Int32.lt_iff_toInt_lt, mg_toI hx.1 hx.2, mg_toI hy.1 hy.2]
theorem mg_le {x y : Int} (hx : -2147483648 ≤ x ∧ x < 2147483648) (hy : -2147483648 ≤ y ∧ y < 2147483648) : Int32.ofInt x ≤ Int32.ofInt y ↔ x ≤ y := by
  rw [Int32.le_iff_toInt_le, mg_toI hx.1 hx.2, mg_toI hy.1 hy.2]
theorem mg_eq {x y : Int} (hx : -2147483648 ≤ x ∧ x < 2147483648) (hy : -2147483648 ≤ y ∧ y < 2147483648) : Int32.ofInt x = Int32.ofInt y ↔ x = y := by
  rw [← Int32.toInt_inj, mg_toI hx.1 hx.2, mg_toI hy.1 hy.2]
theorem mg_nI {x : Int} (h : 0 ≤ x) : Int32.ofInt x = nI x.toNat := by
  obtain ⟨n, rfl⟩ : ∃ n : Nat, x = (n : Int) := ⟨x.toNat, by omega⟩
  rw [Int.toNat_natCast]
  exact Int32.ofInt_eq_ofNat
theorem mg_neg {x : Int} (hx : -2147483648 ≤ x ∧ x < 2147483648) (h : 0 ≤ x) : ¬ Int32.ofInt x < 0 := by
  rw [show (0 : Int32) = Int32.ofInt 0 from rfl, mg_lt hx (by omega)]
  omega
theorem mg_clp {x : Int} (hx : -2147483648 ≤ x ∧ x < 2147483648) : (Int32.ofInt x).toNatClampNeg = x.toNat := by
  show (Int32.ofInt x).toInt.toNat = _
  rw [mg_toI hx.1 hx.2]
theorem mg_in {x : Int} {n : Nat} (hx : -2147483648 ≤ x ∧ x < 2147483648) (h : 0 ≤ x) (h2 : x < n) : vp_in (Int32.ofInt x) n := by
  intro q
  rcases q with q | q
  · exact mg_neg hx h q
  · rw [mg_clp hx] at q
    omega
theorem mg_toL {x : Int} (h : -9223372036854775808 ≤ x) (h2 : x < 9223372036854775808) : (Int64.ofInt x).toInt = x := by
  rw [Int64.toInt_ofInt]
  exact Int.bmod_eq_of_le (by simpa using h) (by simpa using h2)
theorem mg_div {x y : Int} (hx : 0 ≤ x ∧ x < 2147483648) (hy : 0 < y ∧ y < 2147483648) : Int32.ofInt x / Int32.ofInt y = Int32.ofInt (x / y) := by
  rw [mg_nI hx.1, mg_nI (by omega : 0 ≤ y), pk_div (by omega) (by omega) (by omega), mg_nI (Int.ediv_nonneg hx.1 (by omega))]
  congr 1
  obtain ⟨a, rfl⟩ : ∃ n : Nat, x = (n : Int) := ⟨x.toNat, by omega⟩
  obtain ⟨b, rfl⟩ : ∃ n : Nat, y = (n : Int) := ⟨y.toNat, by omega⟩
  rw [← Int.natCast_ediv]
  simp only [Int.toNat_natCast]
theorem mg_mod {x y : Int} (hx : 0 ≤ x ∧ x < 2147483648) (hy : 0 < y ∧ y < 2147483648) : Int32.ofInt x - Int32.ofInt x / Int32.ofInt y * Int32.ofInt y = Int32.ofInt (x % y) := by
  rw [mg_nI hx.1, mg_nI (by omega : 0 ≤ y), pk_rem (by omega) (by omega) (by omega), mg_nI (Int.emod_nonneg _ (by omega))]
  congr 1
  obtain ⟨a, rfl⟩ : ∃ n : Nat, x = (n : Int) := ⟨x.toNat, by omega⟩
  obtain ⟨b, rfl⟩ : ∃ n : Nat, y = (n : Int) := ⟨y.toNat, by omega⟩
  rw [← Int.natCast_emod]
  simp only [Int.toNat_natCast]
theorem mg_bits (x : Int) : (Int32.ofInt x).toBitVec.toNat = (x % 4294967296).toNat := by
  rw [Int32.toBitVec_ofInt, BitVec.toNat_ofInt]
  rfl
theorem mg_and (x : Int) : Int32.ofInt x &&& Int32.ofInt 63 = Int32.ofInt (x % 64) := by
  rw [pk_and (m := Int32.ofInt 63) _ 6 (by decide), mg_bits, mg_nI (by omega)]
  congr 1
  omega
theorem mg_chr (x : Int) : ((Int32.ofInt x).toUInt32 % 65536).toInt32 = Int32.ofInt (x % 65536) := by
  rw [pk_char, mg_bits, mg_nI (by omega)]
  congr 1
  omega
theorem mg_i2l {x : Int} (hx : -2147483648 ≤ x ∧ x < 2147483648) : (Int32.ofInt x).toInt64 = Int64.ofInt x := by
  apply Int64.toInt_inj.mp
  rw [Int32.toInt_toInt64, mg_toI hx.1 hx.2, mg_toL (by omega) (by omega)]
theorem mg_l2i {x : Int} (hx : -2147483648 ≤ x ∧ x < 2147483648) : (Int64.ofInt x).toInt32 = Int32.ofInt x := by
  rw [← mg_i2l hx]
  simp
theorem mg_lcmp {x y : Int} (hx : -9223372036854775808 ≤ x ∧ x < 9223372036854775808) (hy : -9223372036854775808 ≤ y ∧ y < 9223372036854775808) : lg_cmp (Int64.ofInt x) (Int64.ofInt y) = Int32.ofInt (if x < y then -1 else if x = y then 0 else 1) := by
  have h1 : Int64.ofInt y < Int64.ofInt x ↔ y < x := by rw [Int64.lt_iff_toInt_lt, mg_toL hx.1 hx.2, mg_toL hy.1 hy.2]
  have h2 : Int64.ofInt x = Int64.ofInt y ↔ x = y := by rw [← Int64.toInt_inj, mg_toL hx.1 hx.2, mg_toL hy.1 hy.2]
  unfold lg_cmp
  simp only [gt_iff_lt, h1, h2]
  rcases Int.lt_trichotomy x y with h | h | h
  · rw [if_neg (by omega), if_neg (by omega), if_pos h]; rfl
  · rw [if_neg (by omega), if_pos h, if_neg (by omega), if_pos h]; rfl
  · rw [if_pos h, if_neg (by omega), if_neg (by omega)]; rfl
end
section
/-! one row an instruction, over the abstract memory: what touches no heap -/
/-- the locals of a frame -/
def mg_Fr (ls : Array Slot) (nL : Nat) (L : mg_L) : Prop := lv_has ls nL (L.map (fun q => (q.1, mg_tv q.2))) ∧ ∀ q ∈ L, mg_ok q.2
theorem mg_cat (v : mg_V) : (mg_tv v).category = if mg_cat2 v = true then 2 else 1 := by
  rcases v with x | a | x | x | x <;> rfl
theorem mg_cat_le (v : mg_V) : (mg_tv v).category ≤ 2 := by
  rcases v with x | a | x | x | x <;> simp [mg_tv, Value.category]
theorem mg_sum (st : List mg_V) : (((st.map mg_tv).map fun v => v.category).sum) ≤ 2 * st.length := by
  induction st with
  | nil => simp
  | cons v st ih =>
    have := mg_cat_le v
    simp only [List.map_cons, List.sum_cons, List.length_cons]
    omega
section MGP
variable {p : Program} {l : Launch} {e : Env} {R : Room} {s : State} {m : MethodId} {args : Array Value} {below : List Frame} {meth : Method} {c : Code} {Q : State → Prop} {D : mg_D} {nL AC AS : Nat} {cc : ByteArray}
/-- from this place of the code the run comes to Q -/
def mg_G (p : Program) (l : Launch) (e : Env) (R : Room) (s : State) (m : MethodId) (args : Array Value) (below : List Frame) (meth : Method) (c : Code) (Q : State → Prop) (D : mg_D) (nL AC AS : Nat) : mg_K := fun pc L st M B =>
  ∀ (H : Heap) (locs : List Loc) (cells slots : Nat) (ls : Array Slot), mg_H D M s H → va_S (mg_A D) s.heap H locs → mg_Fr ls nL L → (∀ v ∈ st, mg_ok v) → cells + B ≤ AC → slots + 160 * B ≤ AS →
    W p l e R s m args below meth c H locs cells slots Q (F0 m pc ls (st.map mg_tv))
theorem gs_pure {pc pc' : Nat} {L : mg_L} {st st' : List mg_V} {M : mg_M} {B : Nat} (k : mg_G p l e R s m args below meth c Q D nL AC AS pc' L st' M B)
    (h : ∀ (H : Heap) (locs : List Loc) (cells slots : Nat) (ls : Array Slot), mg_Fr ls nL L → (∀ v ∈ st, mg_ok v) → (∀ v ∈ st', mg_ok v) ∧ (W p l e R s m args below meth c H locs cells slots Q (F0 m pc' ls (st'.map mg_tv)) → W p l e R s m args below meth c H locs cells slots Q (F0 m pc ls (st.map mg_tv)))) : mg_G p l e R s m args below meth c Q D nL AC AS pc L st M B := by
  intro H locs cells slots ls hH hS hF hst hc hs
  obtain ⟨h1, h2⟩ := h H locs cells slots ls hF hst
  exact h2 (k H locs cells slots ls hH hS hF h1 hc hs)
theorem mg_ok2 {v : mg_V} {st : List mg_V} {P : Prop} (h : ∀ w ∈ v :: st, mg_ok w) (k : mg_ok v → (∀ w ∈ st, mg_ok w) → P) : P := k (h v List.mem_cons_self) (fun w hw => h w (List.mem_cons_of_mem _ hw))
theorem mg_okc {v : mg_V} {st : List mg_V} (h1 : mg_ok v) (h2 : ∀ w ∈ st, mg_ok w) : ∀ w ∈ v :: st, mg_ok w := fun w hw => (List.mem_cons.mp hw).elim (fun e => e ▸ h1) (h2 w)
theorem mg_getS {L : mg_L} {i : Nat} {k : mg_V → Prop} (h : mg_get L i k) : ∃ v, (i, v) ∈ L ∧ k v := by
  induction L with
  | nil => exact h.elim
  | cons q L ih =>
    obtain ⟨j, v⟩ := q
    unfold mg_get at h
    cases hj : Nat.beq j i with
    | true =>
      rw [hj] at h
      have := Nat.eq_of_beq_eq_true hj
      subst this
      exact ⟨v, List.mem_cons_self, h⟩
    | false =>
      rw [hj] at h
      obtain ⟨w, h1, h2⟩ := ih h
      exact ⟨w, List.mem_cons_of_mem _ h1, h2⟩
theorem mg_Fr.at {ls : Array Slot} {L : mg_L} {i : Nat} {v : mg_V} (h : mg_Fr ls nL L) (hi : (i, v) ∈ L) : ls[i]? = some (.val (mg_tv v)) := h.1.2.2 (i, mg_tv v) (List.mem_map.mpr ⟨(i, v), hi, rfl⟩)
theorem mg_remS {L : mg_L} {i : Nat} {w : Bool} {k : mg_L → Prop} (h : mg_rem L i w k) : k (L.filter (fun q => !(Nat.beq q.1 i || (Nat.beq (q.1 + 1) i && mg_cat2 q.2) || (w && Nat.beq q.1 (i + 1))))) := by
  induction L generalizing k with
  | nil => exact h
  | cons q L ih =>
    obtain ⟨j, v⟩ := q
    unfold mg_rem at h
    rw [List.filter_cons]
    dsimp only at h ⊢
    cases hb : (Nat.beq j i || (Nat.beq (j + 1) i && mg_cat2 v) || (w && Nat.beq j (i + 1))) with
    | true =>
      rw [hb] at h
      rw [if_neg (by simp)]
      exact ih h
    | false =>
      rw [hb] at h
      rw [if_pos (by simp)]
      exact ih h
theorem mg_beq (a b : Nat) : Nat.beq a b = (a == b) := Bool.eq_iff_iff.mpr (by rw [Nat.beq_eq, beq_iff_eq])
theorem mg_storeS {ls : Array Slot} {L : mg_L} {i : Nat} {v : mg_V} (hF : mg_Fr ls nL L) (hv : mg_ok v) (hi : i + 1 < nL ∨ (i < nL ∧ mg_cat2 v = false)) :
    ∃ ls', storeLocals ls i (mg_tv v) = some ls' ∧ mg_Fr ls' nL ((i, v) :: L.filter (fun q => !(Nat.beq q.1 i || (Nat.beq (q.1 + 1) i && mg_cat2 q.2) || (mg_cat2 v && Nat.beq q.1 (i + 1))))) := by
  have hsub : ∀ (f : Nat × Value → Bool), (∀ q ∈ L, (!(Nat.beq q.1 i || (Nat.beq (q.1 + 1) i && mg_cat2 q.2) || (mg_cat2 v && Nat.beq q.1 (i + 1)))) = true → f (q.1, mg_tv q.2) = true) → ∀ ls', lv_has ls' nL ((i, mg_tv v) :: (L.map (fun q => (q.1, mg_tv q.2))).filter f) → mg_Fr ls' nL ((i, v) :: L.filter (fun q => !(Nat.beq q.1 i || (Nat.beq (q.1 + 1) i && mg_cat2 q.2) || (mg_cat2 v && Nat.beq q.1 (i + 1))))) := by
    intro f hf ls' h'
    refine ⟨⟨h'.1, h'.2.1, fun q hq => ?_⟩, fun q hq => ?_⟩
    · rcases List.mem_map.mp hq with ⟨q0, hq0, rfl⟩
      rcases List.mem_cons.mp hq0 with rfl | hq1
      · exact h'.2.2 _ List.mem_cons_self
      · obtain ⟨h1, h2⟩ := List.mem_filter.mp hq1
        exact h'.2.2 _ (List.mem_cons_of_mem _ (List.mem_filter.mpr ⟨List.mem_map.mpr ⟨q0, h1, rfl⟩, hf q0 h1 h2⟩))
    · rcases List.mem_cons.mp hq with rfl | hq1
      · exact hv
      · exact hF.2 q (List.mem_filter.mp hq1).1
  have hcat := mg_cat v
  cases hc : mg_cat2 v with
  | false =>
    rw [hc] at hcat
    obtain ⟨ls', h1, h2⟩ := lv_store1 (v := mg_tv v) hF.1 (i := i) (by omega) (by rw [hcat]; rfl)
    refine ⟨ls', h1, ?_⟩
    have := hsub _ (fun q _ hq => ?_) ls' h2
    · rw [hc] at this; exact this
    · have hq2 := mg_cat q.2
      rw [hc] at hq
      simp only [mg_beq, Bool.not_or, Bool.and_eq_true, Bool.not_eq_true', Bool.false_and, beq_eq_false_iff_ne, Bool.and_eq_false_iff] at hq ⊢
      refine ⟨hq.1.1, ?_⟩
      rcases hq.1.2 with h | h
      · exact Or.inl h
      · rw [h] at hq2
        exact Or.inr (by rw [hq2]; decide)
  | true =>
    rw [hc] at hcat
    obtain ⟨ls', h1, h2⟩ := lv_store2 (v := mg_tv v) hF.1 (i := i) (by rcases hi with h | ⟨-, h⟩; exact h; rw [hc] at h; cases h) (by rw [hcat]; rfl)
    refine ⟨ls', h1, ?_⟩
    have := hsub _ (fun q _ hq => ?_) ls' h2
    · rw [hc] at this; exact this
    · have hq2 := mg_cat q.2
      rw [hc] at hq
      simp only [mg_beq, Bool.not_or, Bool.and_eq_true, Bool.not_eq_true', Bool.true_and, beq_eq_false_iff_ne, Bool.and_eq_false_iff] at hq ⊢
      refine ⟨hq.1.1, hq.2, ?_⟩
      rcases hq.1.2 with h | h
      · exact Or.inl h
      · rw [h] at hq2
        exact Or.inr (by rw [hq2]; decide)
end MGP
end
section
theorem mg_ne0 {y : Int} (hy : mg_ok (.inl y)) (h : 0 < y) : ¬ Int32.ofInt y = 0 := by
  have hy1 : -2147483648 ≤ y ∧ y < 2147483648 := hy
  rw [show (0 : Int32) = Int32.ofInt 0 from rfl, mg_eq hy1 (by omega)]
  omega
theorem mg_divr {x y : Int} (hx : mg_ok (.inl x)) (h : 0 ≤ x ∧ 0 < y) : mg_ok (.inl (x / y)) := by
  have hx1 : -2147483648 ≤ x ∧ x < 2147483648 := hx
  have h1 := Int.ediv_nonneg h.1 (Int.le_of_lt h.2)
  have h2 := Int.ediv_le_self y h.1
  show _ ∧ _
  omega
theorem mg_modr {x y : Int} (hy : mg_ok (.inl y)) (h : 0 ≤ x ∧ 0 < y) : mg_ok (.inl (x % y)) := by
  have hy1 : -2147483648 ≤ y ∧ y < 2147483648 := hy
  have h1 := Int.emod_nonneg x (Int.ne_of_gt h.2)
  have h2 := Int.emod_lt_of_pos x h.2
  show _ ∧ _
  omega
theorem mg_i32 (x : Int32) : mg_ok (.inl x.toInt) := ⟨x.le_toInt, x.toInt_lt⟩
section MGI
variable {p : Program} {l : Launch} {e : Env} {R : Room} {s : State} {m : MethodId} {args : Array Value} {below : List Frame} {meth : Method} {c : Code} {Q : State → Prop} {D : mg_D} {nL AC AS : Nat} {cc : ByteArray} {pc : Nat} {L : mg_L} {st : List mg_V} {M : mg_M} {B : Nat}
theorem gs_iadd (hx : p.tables.exec = Jvm.exec) (hb : c.code = cc) {x y : Int} (hr : -2147483648 ≤ x + y ∧ x + y < 2147483648) (hdg : decode cc pc = .ok (.iadd, 1)) (k : mg_G p l e R s m args below meth c Q D nL AC AS (pc + 1) L (.inl (x + y) :: st) M B) : mg_G p l e R s m args below meth c Q D nL AC AS pc L (.inl y :: .inl x :: st) M B :=
  gs_pure k fun H locs cells slots ls hF hst => by
    refine mg_ok2 hst fun hy hst => mg_ok2 hst fun hx1 hst => ⟨mg_okc hr hst, fun k => ?_⟩
    refine lv_iadd hx hb hdg ?_
    have k2 := k
    simp only [List.map_cons, mg_tv] at k2 ⊢
    rw [Int32.ofInt_add] at k2
    exact k2
theorem gs_isub (hx : p.tables.exec = Jvm.exec) (hb : c.code = cc) {x y : Int} (hr : -2147483648 ≤ x - y ∧ x - y < 2147483648) (hdg : decode cc pc = .ok (.isub, 1)) (k : mg_G p l e R s m args below meth c Q D nL AC AS (pc + 1) L (.inl (x - y) :: st) M B) : mg_G p l e R s m args below meth c Q D nL AC AS pc L (.inl y :: .inl x :: st) M B :=
  gs_pure k fun H locs cells slots ls hF hst => by
    refine mg_ok2 hst fun hy hst => mg_ok2 hst fun hx1 hst => ⟨mg_okc hr hst, fun k => ?_⟩
    refine lv_isub hx hb hdg ?_
    have k2 := k
    simp only [List.map_cons, mg_tv] at k2 ⊢
    rw [Int32.ofInt_sub] at k2
    exact k2
theorem gs_imul (hx : p.tables.exec = Jvm.exec) (hb : c.code = cc) {x y : Int} (hr : -2147483648 ≤ x * y ∧ x * y < 2147483648) (hdg : decode cc pc = .ok (.imul, 1)) (k : mg_G p l e R s m args below meth c Q D nL AC AS (pc + 1) L (.inl (x * y) :: st) M B) : mg_G p l e R s m args below meth c Q D nL AC AS pc L (.inl y :: .inl x :: st) M B :=
  gs_pure k fun H locs cells slots ls hF hst => by
    refine mg_ok2 hst fun hy hst => mg_ok2 hst fun hx1 hst => ⟨mg_okc hr hst, fun k => ?_⟩
    refine lv_imul hx hb hdg ?_
    have k2 := k
    simp only [List.map_cons, mg_tv] at k2 ⊢
    rw [Int32.ofInt_mul] at k2
    exact k2
theorem gs_idiv (hx : p.tables.exec = Jvm.exec) (hb : c.code = cc) {x y : Int} (hr : 0 ≤ x ∧ 0 < y) (hdg : decode cc pc = .ok (.idiv, 1)) (k : mg_G p l e R s m args below meth c Q D nL AC AS (pc + 1) L (.inl (x / y) :: st) M B) : mg_G p l e R s m args below meth c Q D nL AC AS pc L (.inl y :: .inl x :: st) M B :=
  gs_pure k fun H locs cells slots ls hF hst => by
    refine mg_ok2 hst fun hy hst => mg_ok2 hst fun hx1 hst => ⟨mg_okc (mg_divr hx1 hr) hst, fun k => ?_⟩
    refine lv_idiv hx hb hdg (mg_ne0 hy hr.2) ?_
    have k2 := k
    simp only [List.map_cons, mg_tv] at k2 ⊢
    rw [← mg_div ⟨hr.1, hx1.2⟩ ⟨hr.2, hy.2⟩] at k2
    exact k2
theorem gs_irem (hx : p.tables.exec = Jvm.exec) (hb : c.code = cc) {x y : Int} (hr : 0 ≤ x ∧ 0 < y) (hdg : decode cc pc = .ok (.irem, 1)) (k : mg_G p l e R s m args below meth c Q D nL AC AS (pc + 1) L (.inl (x % y) :: st) M B) : mg_G p l e R s m args below meth c Q D nL AC AS pc L (.inl y :: .inl x :: st) M B :=
  gs_pure k fun H locs cells slots ls hF hst => by
    refine mg_ok2 hst fun hy hst => mg_ok2 hst fun hx1 hst => ⟨mg_okc (mg_modr hy hr) hst, fun k => ?_⟩
    refine lv_irem hx hb hdg (mg_ne0 hy hr.2) ?_
    have k2 := k
    simp only [List.map_cons, mg_tv] at k2 ⊢
    rw [← mg_mod ⟨hr.1, hx1.2⟩ ⟨hr.2, hy.2⟩] at k2
    exact k2
theorem gs_iand (hx : p.tables.exec = Jvm.exec) (hb : c.code = cc) {x y : Int} (hr : y = 63) (hdg : decode cc pc = .ok (.iand, 1)) (k : mg_G p l e R s m args below meth c Q D nL AC AS (pc + 1) L (.inl (x % 64) :: st) M B) : mg_G p l e R s m args below meth c Q D nL AC AS pc L (.inl y :: .inl x :: st) M B :=
  gs_pure k fun H locs cells slots ls hF hst => by
    refine mg_ok2 hst fun hy hst => mg_ok2 hst fun hx1 hst => ⟨mg_okc (by show _ ∧ _; omega) hst, fun k => ?_⟩
    refine lv_iand hx hb hdg ?_
    have k2 := k
    simp only [List.map_cons, mg_tv] at k2 ⊢
    subst hr; rw [← mg_and] at k2
    exact k2
theorem gs_i2c (hx : p.tables.exec = Jvm.exec) (hb : c.code = cc) {x : Int} (hdg : decode cc pc = .ok (.i2c, 1)) (k : mg_G p l e R s m args below meth c Q D nL AC AS (pc + 1) L (.inl (x % 65536) :: st) M B) : mg_G p l e R s m args below meth c Q D nL AC AS pc L (.inl x :: st) M B :=
  gs_pure k fun H locs cells slots ls hF hst => by
    refine mg_ok2 hst fun hx1 hst => ⟨mg_okc (by show _ ∧ _; omega) hst, fun k => ?_⟩
    refine lv_i2c hx hb hdg (mg_chr x) ?_
    have k2 := k
    simp only [List.map_cons, mg_tv] at k2 ⊢
    skip
    exact k2
theorem gs_i2l (hx : p.tables.exec = Jvm.exec) (hb : c.code = cc) {x : Int} (hdg : decode cc pc = .ok (.i2l, 1)) (k : mg_G p l e R s m args below meth c Q D nL AC AS (pc + 1) L (.inr (.inr (.inl x)) :: st) M B) : mg_G p l e R s m args below meth c Q D nL AC AS pc L (.inl x :: st) M B :=
  gs_pure k fun H locs cells slots ls hF hst => by
    refine mg_ok2 hst fun hx1 hst => ⟨mg_okc (by have h1 : _ ∧ _ := hx1; show _ ∧ _; omega) hst, fun k => ?_⟩
    refine lv_i2l hx hb hdg (mg_i2l hx1) ?_
    have k2 := k
    simp only [List.map_cons, mg_tv] at k2 ⊢
    skip
    exact k2
theorem gs_l2i (hx : p.tables.exec = Jvm.exec) (hb : c.code = cc) {x : Int} (hr : -2147483648 ≤ x ∧ x < 2147483648) (hdg : decode cc pc = .ok (.l2i, 1)) (k : mg_G p l e R s m args below meth c Q D nL AC AS (pc + 1) L (.inl x :: st) M B) : mg_G p l e R s m args below meth c Q D nL AC AS pc L (.inr (.inr (.inl x)) :: st) M B :=
  gs_pure k fun H locs cells slots ls hF hst => by
    refine mg_ok2 hst fun hx1 hst => ⟨mg_okc hr hst, fun k => ?_⟩
    refine lv_l2i hx hb hdg (mg_l2i hr) ?_
    have k2 := k
    simp only [List.map_cons, mg_tv] at k2 ⊢
    skip
    exact k2
theorem gs_ladd (hx : p.tables.exec = Jvm.exec) (hb : c.code = cc) {x y : Int} (hr : -9223372036854775808 ≤ x + y ∧ x + y < 9223372036854775808) (hdg : decode cc pc = .ok (.ladd, 1)) (k : mg_G p l e R s m args below meth c Q D nL AC AS (pc + 1) L (.inr (.inr (.inl (x + y))) :: st) M B) : mg_G p l e R s m args below meth c Q D nL AC AS pc L (.inr (.inr (.inl y)) :: .inr (.inr (.inl x)) :: st) M B :=
  gs_pure k fun H locs cells slots ls hF hst => by
    refine mg_ok2 hst fun hy hst => mg_ok2 hst fun hx1 hst => ⟨mg_okc hr hst, fun k => ?_⟩
    refine lv_ladd hx hb hdg ?_
    have k2 := k
    simp only [List.map_cons, mg_tv] at k2 ⊢
    rw [Int64.ofInt_add] at k2
    exact k2
theorem gs_lsub (hx : p.tables.exec = Jvm.exec) (hb : c.code = cc) {x y : Int} (hr : -9223372036854775808 ≤ x - y ∧ x - y < 9223372036854775808) (hdg : decode cc pc = .ok (.lsub, 1)) (k : mg_G p l e R s m args below meth c Q D nL AC AS (pc + 1) L (.inr (.inr (.inl (x - y))) :: st) M B) : mg_G p l e R s m args below meth c Q D nL AC AS pc L (.inr (.inr (.inl y)) :: .inr (.inr (.inl x)) :: st) M B :=
  gs_pure k fun H locs cells slots ls hF hst => by
    refine mg_ok2 hst fun hy hst => mg_ok2 hst fun hx1 hst => ⟨mg_okc hr hst, fun k => ?_⟩
    refine lv_lsub hx hb hdg ?_
    have k2 := k
    simp only [List.map_cons, mg_tv] at k2 ⊢
    rw [Int64.ofInt_sub] at k2
    exact k2
theorem gs_lcmp (hx : p.tables.exec = Jvm.exec) (hb : c.code = cc) {x y : Int} (hdg : decode cc pc = .ok (.lcmp, 1)) (k : mg_G p l e R s m args below meth c Q D nL AC AS (pc + 1) L (.inl (if x < y then -1 else if x = y then 0 else 1) :: st) M B) : mg_G p l e R s m args below meth c Q D nL AC AS pc L (.inr (.inr (.inl y)) :: .inr (.inr (.inl x)) :: st) M B :=
  gs_pure k fun H locs cells slots ls hF hst => by
    refine mg_ok2 hst fun hy hst => mg_ok2 hst fun hx1 hst => ⟨mg_okc (by show _ ∧ _; split <;> (try split) <;> omega) hst, fun k => ?_⟩
    refine W.lcmp hx hb hdg ?_
    have k2 := k
    simp only [List.map_cons, mg_tv] at k2 ⊢
    rw [← mg_lcmp hx1 hy] at k2
    exact k2
theorem gs_i2f (hx : p.tables.exec = Jvm.exec) (hb : c.code = cc) {x : Int} (hdg : decode cc pc = .ok (.i2f, 1)) (k : mg_G p l e R s m args below meth c Q D nL AC AS (pc + 1) L (.inr (.inr (.inr (.inr (FP.i2f (Int32.ofInt x))))) :: st) M B) : mg_G p l e R s m args below meth c Q D nL AC AS pc L (.inl x :: st) M B :=
  gs_pure k fun H locs cells slots ls hF hst => by
    refine mg_ok2 hst fun hx1 hst => ⟨mg_okc trivial hst, fun k => ?_⟩
    refine lv_i2f hx hb hdg ?_
    have k2 := k
    simp only [List.map_cons, mg_tv] at k2 ⊢
    skip
    exact k2
theorem gs_i2d (hx : p.tables.exec = Jvm.exec) (hb : c.code = cc) {x : Int} (hdg : decode cc pc = .ok (.i2d, 1)) (k : mg_G p l e R s m args below meth c Q D nL AC AS (pc + 1) L (.inr (.inr (.inr (.inl (FP.i2d (Int32.ofInt x))))) :: st) M B) : mg_G p l e R s m args below meth c Q D nL AC AS pc L (.inl x :: st) M B :=
  gs_pure k fun H locs cells slots ls hF hst => by
    refine mg_ok2 hst fun hx1 hst => ⟨mg_okc trivial hst, fun k => ?_⟩
    refine lv_i2d hx hb hdg ?_
    have k2 := k
    simp only [List.map_cons, mg_tv] at k2 ⊢
    skip
    exact k2
theorem gs_f2d (hx : p.tables.exec = Jvm.exec) (hb : c.code = cc) {x : UInt32} (hr : vf_n64 (FP.f2d x)) (hdg : decode cc pc = .ok (.f2d, 1)) (k : mg_G p l e R s m args below meth c Q D nL AC AS (pc + 1) L (.inr (.inr (.inr (.inl (FP.f2d x)))) :: st) M B) : mg_G p l e R s m args below meth c Q D nL AC AS pc L (.inr (.inr (.inr (.inr x))) :: st) M B :=
  gs_pure k fun H locs cells slots ls hF hst => by
    refine mg_ok2 hst fun hx1 hst => ⟨mg_okc trivial hst, fun k => ?_⟩
    refine lv_f2d hx hb hdg hr ?_
    have k2 := k
    simp only [List.map_cons, mg_tv] at k2 ⊢
    skip
    exact k2
theorem gs_fdiv (hx : p.tables.exec = Jvm.exec) (hb : c.code = cc) {x y : UInt32} (hr : vf_n32 (FP.fdiv x y)) (hdg : decode cc pc = .ok (.fdiv, 1)) (k : mg_G p l e R s m args below meth c Q D nL AC AS (pc + 1) L (.inr (.inr (.inr (.inr (FP.fdiv x y)))) :: st) M B) : mg_G p l e R s m args below meth c Q D nL AC AS pc L (.inr (.inr (.inr (.inr y))) :: .inr (.inr (.inr (.inr x))) :: st) M B :=
  gs_pure k fun H locs cells slots ls hF hst => by
    refine mg_ok2 hst fun hy hst => mg_ok2 hst fun hx1 hst => ⟨mg_okc trivial hst, fun k => ?_⟩
    refine lv_fdiv hx hb hdg hr ?_
    have k2 := k
    simp only [List.map_cons, mg_tv] at k2 ⊢
    skip
    exact k2
theorem gs_ddiv (hx : p.tables.exec = Jvm.exec) (hb : c.code = cc) {x y : UInt64} (hr : vf_n64 (FP.ddiv x y)) (hdg : decode cc pc = .ok (.ddiv, 1)) (k : mg_G p l e R s m args below meth c Q D nL AC AS (pc + 1) L (.inr (.inr (.inr (.inl (FP.ddiv x y)))) :: st) M B) : mg_G p l e R s m args below meth c Q D nL AC AS pc L (.inr (.inr (.inr (.inl y))) :: .inr (.inr (.inr (.inl x))) :: st) M B :=
  gs_pure k fun H locs cells slots ls hF hst => by
    refine mg_ok2 hst fun hy hst => mg_ok2 hst fun hx1 hst => ⟨mg_okc trivial hst, fun k => ?_⟩
    refine lv_ddiv hx hb hdg hr ?_
    have k2 := k
    simp only [List.map_cons, mg_tv] at k2 ⊢
    skip
    exact k2
theorem gs_dcmp (hx : p.tables.exec = Jvm.exec) (hb : c.code = cc) {x y : UInt64} {op : CmpOp} (hdg : decode cc pc = .ok (.dcmp op, 1)) (k : mg_G p l e R s m args below meth c Q D nL AC AS (pc + 1) L (.inl (Op.cmpValue (FP.dcmp x y) op).toInt :: st) M B) : mg_G p l e R s m args below meth c Q D nL AC AS pc L (.inr (.inr (.inr (.inl y))) :: .inr (.inr (.inr (.inl x))) :: st) M B :=
  gs_pure k fun H locs cells slots ls hF hst => by
    refine mg_ok2 hst fun hy hst => mg_ok2 hst fun hx1 hst => ⟨mg_okc (mg_i32 _) hst, fun k => ?_⟩
    refine lv_dcmp hx hb hdg ?_
    have k2 := k
    simp only [List.map_cons, mg_tv] at k2 ⊢
    rw [Int32.ofInt_toInt] at k2
    exact k2
theorem gs_iconst (hx : p.tables.exec = Jvm.exec) (hb : c.code = cc) {n : Int} (hr : -2147483648 ≤ n ∧ n < 2147483648) (hdg : decode cc pc = .ok (.iconst n, 1)) (k : mg_G p l e R s m args below meth c Q D nL AC AS (pc + 1) L (.inl n :: st) M B) : mg_G p l e R s m args below meth c Q D nL AC AS pc L st M B :=
  gs_pure k fun H locs cells slots ls hF hst => ⟨mg_okc hr hst, fun k => lv_iconst hx hb hdg rfl k⟩
theorem gs_bipush (hx : p.tables.exec = Jvm.exec) (hb : c.code = cc) {n : Int} (hr : -2147483648 ≤ n ∧ n < 2147483648) (hn : (Int8.ofInt n).toInt32 = Int32.ofInt n) (hdg : decode cc pc = .ok (.bipush n, 2)) (k : mg_G p l e R s m args below meth c Q D nL AC AS (pc + 2) L (.inl n :: st) M B) : mg_G p l e R s m args below meth c Q D nL AC AS pc L st M B :=
  gs_pure k fun H locs cells slots ls hF hst => ⟨mg_okc hr hst, fun k => lv_bipush hx hb hdg hn k⟩
theorem gs_sipush (hx : p.tables.exec = Jvm.exec) (hb : c.code = cc) {n : Int} (hr : -2147483648 ≤ n ∧ n < 2147483648) (hn : (Int16.ofInt n).toInt32 = Int32.ofInt n) (hdg : decode cc pc = .ok (.sipush n, 3)) (k : mg_G p l e R s m args below meth c Q D nL AC AS (pc + 3) L (.inl n :: st) M B) : mg_G p l e R s m args below meth c Q D nL AC AS pc L st M B :=
  gs_pure k fun H locs cells slots ls hF hst => ⟨mg_okc hr hst, fun k => lv_sipush hx hb hdg hn k⟩
theorem gs_lconst (hx : p.tables.exec = Jvm.exec) (hb : c.code = cc) {n : Fin 2} {a : Nat} (ha : (n : Nat) = a) (hdg : decode cc pc = .ok (.lconst n, 1)) (k : mg_G p l e R s m args below meth c Q D nL AC AS (pc + 1) L (.inr (.inr (.inl (a : Int))) :: st) M B) : mg_G p l e R s m args below meth c Q D nL AC AS pc L st M B :=
  gs_pure k fun H locs cells slots ls hF hst => ⟨mg_okc (by show _ ∧ _; have := n.isLt; omega) hst, fun k => lv_lconst hx hb hdg (by rw [ha]; exact Int64.ofInt_eq_ofNat.symm) k⟩
theorem gs_fconst (hx : p.tables.exec = Jvm.exec) (hb : c.code = cc) (hdg : decode cc pc = .ok (.fconst 0, 1)) (k : mg_G p l e R s m args below meth c Q D nL AC AS (pc + 1) L (.inr (.inr (.inr (.inr 0))) :: st) M B) : mg_G p l e R s m args below meth c Q D nL AC AS pc L st M B :=
  gs_pure k fun H locs cells slots ls hF hst => ⟨mg_okc trivial hst, fun k => lv_fconst0 hx hb hdg k⟩
theorem gs_dconst (hx : p.tables.exec = Jvm.exec) (hb : c.code = cc) (hdg : decode cc pc = .ok (.dconst 0, 1)) (k : mg_G p l e R s m args below meth c Q D nL AC AS (pc + 1) L (.inr (.inr (.inr (.inl 0))) :: st) M B) : mg_G p l e R s m args below meth c Q D nL AC AS pc L st M B :=
  gs_pure k fun H locs cells slots ls hF hst => ⟨mg_okc trivial hst, fun k => lv_dconst0 hx hb hdg k⟩
theorem gs_ldc2 (hx : p.tables.exec = Jvm.exec) (hb : c.code = cc) {own : String} {i a : Nat} (hown : s.vm.findClass own = some m.cls) (hc : (Jvm.Cond.constantLong own i (Int64.ofInt (a : Int))).before args s = true) (ha : a < 9223372036854775808) (hdg : decode cc pc = .ok (.ldc2_w i, 3)) (k : mg_G p l e R s m args below meth c Q D nL AC AS (pc + 3) L (.inr (.inr (.inl (a : Int))) :: st) M B) : mg_G p l e R s m args below meth c Q D nL AC AS pc L st M B :=
  gs_pure k fun H locs cells slots ls hF hst => ⟨mg_okc (by show _ ∧ _; omega) hst, fun k => lv_ldc2 hx hb hown hc hdg k⟩
theorem gs_iload_n (hx : p.tables.exec = Jvm.exec) (hb : c.code = cc) {n : Fin 4} {i : Nat} {x : Int} (hi : (n : Nat) = i) (hl : (i, (.inl x : mg_V)) ∈ L) (hdg : decode cc pc = .ok (.iload_n n, 1)) (k : mg_G p l e R s m args below meth c Q D nL AC AS (pc + 1) L (.inl x :: st) M B) : mg_G p l e R s m args below meth c Q D nL AC AS pc L st M B :=
  gs_pure k fun H locs cells slots ls hF hst => ⟨mg_okc (hF.2 _ hl) hst, fun k => lv_iload_n hx hb hdg hi (hF.at hl) k⟩
theorem gs_iload (hx : p.tables.exec = Jvm.exec) (hb : c.code = cc) {i : Nat} {x : Int} (hl : (i, (.inl x : mg_V)) ∈ L) (hdg : decode cc pc = .ok (.iload i, 2)) (k : mg_G p l e R s m args below meth c Q D nL AC AS (pc + 2) L (.inl x :: st) M B) : mg_G p l e R s m args below meth c Q D nL AC AS pc L st M B :=
  gs_pure k fun H locs cells slots ls hF hst => ⟨mg_okc (hF.2 _ hl) hst, fun k => lv_iload hx hb hdg (hF.at hl) k⟩
theorem gs_aload_n (hx : p.tables.exec = Jvm.exec) (hb : c.code = cc) {n : Fin 4} {i : Nat} {x : Nat} (hi : (n : Nat) = i) (hl : (i, (.inr (.inl x) : mg_V)) ∈ L) (hdg : decode cc pc = .ok (.aload_n n, 1)) (k : mg_G p l e R s m args below meth c Q D nL AC AS (pc + 1) L (.inr (.inl x) :: st) M B) : mg_G p l e R s m args below meth c Q D nL AC AS pc L st M B :=
  gs_pure k fun H locs cells slots ls hF hst => ⟨mg_okc (hF.2 _ hl) hst, fun k => lv_aload_n hx hb hdg hi (hF.at hl) k⟩
theorem gs_aload (hx : p.tables.exec = Jvm.exec) (hb : c.code = cc) {i : Nat} {x : Nat} (hl : (i, (.inr (.inl x) : mg_V)) ∈ L) (hdg : decode cc pc = .ok (.aload i, 2)) (k : mg_G p l e R s m args below meth c Q D nL AC AS (pc + 2) L (.inr (.inl x) :: st) M B) : mg_G p l e R s m args below meth c Q D nL AC AS pc L st M B :=
  gs_pure k fun H locs cells slots ls hF hst => ⟨mg_okc (hF.2 _ hl) hst, fun k => lv_aload hx hb hdg (hF.at hl) k⟩
theorem gs_lload_n (hx : p.tables.exec = Jvm.exec) (hb : c.code = cc) {n : Fin 4} {i : Nat} {x : Int} (hi : (n : Nat) = i) (hl : (i, (.inr (.inr (.inl x)) : mg_V)) ∈ L) (hdg : decode cc pc = .ok (.lload_n n, 1)) (k : mg_G p l e R s m args below meth c Q D nL AC AS (pc + 1) L (.inr (.inr (.inl x)) :: st) M B) : mg_G p l e R s m args below meth c Q D nL AC AS pc L st M B :=
  gs_pure k fun H locs cells slots ls hF hst => ⟨mg_okc (hF.2 _ hl) hst, fun k => lv_lload_n hx hb hdg hi (hF.at hl) k⟩
theorem gs_lload (hx : p.tables.exec = Jvm.exec) (hb : c.code = cc) {i : Nat} {x : Int} (hl : (i, (.inr (.inr (.inl x)) : mg_V)) ∈ L) (hdg : decode cc pc = .ok (.lload i, 2)) (k : mg_G p l e R s m args below meth c Q D nL AC AS (pc + 2) L (.inr (.inr (.inl x)) :: st) M B) : mg_G p l e R s m args below meth c Q D nL AC AS pc L st M B :=
  gs_pure k fun H locs cells slots ls hF hst => ⟨mg_okc (hF.2 _ hl) hst, fun k => lv_lload hx hb hdg (hF.at hl) k⟩
theorem gs_dload_n (hx : p.tables.exec = Jvm.exec) (hb : c.code = cc) {n : Fin 4} {i : Nat} {x : UInt64} (hi : (n : Nat) = i) (hl : (i, (.inr (.inr (.inr (.inl x))) : mg_V)) ∈ L) (hdg : decode cc pc = .ok (.dload_n n, 1)) (k : mg_G p l e R s m args below meth c Q D nL AC AS (pc + 1) L (.inr (.inr (.inr (.inl x))) :: st) M B) : mg_G p l e R s m args below meth c Q D nL AC AS pc L st M B :=
  gs_pure k fun H locs cells slots ls hF hst => ⟨mg_okc (hF.2 _ hl) hst, fun k => lv_dload_n hx hb hdg hi (hF.at hl) k⟩
theorem gs_dload (hx : p.tables.exec = Jvm.exec) (hb : c.code = cc) {i : Nat} {x : UInt64} (hl : (i, (.inr (.inr (.inr (.inl x))) : mg_V)) ∈ L) (hdg : decode cc pc = .ok (.dload i, 2)) (k : mg_G p l e R s m args below meth c Q D nL AC AS (pc + 2) L (.inr (.inr (.inr (.inl x))) :: st) M B) : mg_G p l e R s m args below meth c Q D nL AC AS pc L st M B :=
  gs_pure k fun H locs cells slots ls hF hst => ⟨mg_okc (hF.2 _ hl) hst, fun k => lv_dload hx hb hdg (hF.at hl) k⟩
theorem gs_istore_n (hx : p.tables.exec = Jvm.exec) (hb : c.code = cc) {n : Fin 4} {i : Nat} {x : Int} (hi : (n : Nat) = i) (hn : i < nL) (hdg : decode cc pc = .ok (.istore_n n, 1)) (k : mg_G p l e R s m args below meth c Q D nL AC AS (pc + 1) ((i, .inl x) :: L.filter (fun q => !(Nat.beq q.1 i || (Nat.beq (q.1 + 1) i && mg_cat2 q.2) || (mg_cat2 (.inl x : mg_V) && Nat.beq q.1 (i + 1))))) st M B) : mg_G p l e R s m args below meth c Q D nL AC AS pc L (.inl x :: st) M B := by
  intro H locs cells slots ls hH hS hF hst hc hs
  obtain ⟨ls', h1, h2⟩ := mg_storeS (v := .inl x) hF (hst _ List.mem_cons_self) (i := i) (Or.inr ⟨hn, rfl⟩)
  obtain k2 := k H locs cells slots ls' hH hS h2 (fun w hw => hst w (List.mem_cons_of_mem _ hw)) hc hs
  intro T hT X
  obtain ⟨t, a, b⟩ := k2 T hT X
  refine ⟨t, ?_, b⟩
  have h1 : storeLocals ls i (mg_tv (.inl x)) = some ls' := h1
  subst hi
  simp only [mg_tv] at h1
  simp only [List.map_cons, mg_tv]
  jvm_step X.here [X.here.top, hx, hb, hdg, h1]
  exact a
theorem gs_istore (hx : p.tables.exec = Jvm.exec) (hb : c.code = cc) {i : Nat} {x : Int} (hn : i < nL) (hdg : decode cc pc = .ok (.istore i, 2)) (k : mg_G p l e R s m args below meth c Q D nL AC AS (pc + 2) ((i, .inl x) :: L.filter (fun q => !(Nat.beq q.1 i || (Nat.beq (q.1 + 1) i && mg_cat2 q.2) || (mg_cat2 (.inl x : mg_V) && Nat.beq q.1 (i + 1))))) st M B) : mg_G p l e R s m args below meth c Q D nL AC AS pc L (.inl x :: st) M B := by
  intro H locs cells slots ls hH hS hF hst hc hs
  obtain ⟨ls', h1, h2⟩ := mg_storeS (v := .inl x) hF (hst _ List.mem_cons_self) (i := i) (Or.inr ⟨hn, rfl⟩)
  obtain k2 := k H locs cells slots ls' hH hS h2 (fun w hw => hst w (List.mem_cons_of_mem _ hw)) hc hs
  intro T hT X
  obtain ⟨t, a, b⟩ := k2 T hT X
  refine ⟨t, ?_, b⟩
  have h1 : storeLocals ls i (mg_tv (.inl x)) = some ls' := h1
  simp only [mg_tv] at h1
  simp only [List.map_cons, mg_tv]
  jvm_step X.here [X.here.top, hx, hb, hdg, h1]
  exact a
theorem gs_astore_n (hx : p.tables.exec = Jvm.exec) (hb : c.code = cc) {n : Fin 4} {i : Nat} {x : Nat} (hi : (n : Nat) = i) (hn : i < nL) (hdg : decode cc pc = .ok (.astore_n n, 1)) (k : mg_G p l e R s m args below meth c Q D nL AC AS (pc + 1) ((i, .inr (.inl x)) :: L.filter (fun q => !(Nat.beq q.1 i || (Nat.beq (q.1 + 1) i && mg_cat2 q.2) || (mg_cat2 (.inr (.inl x) : mg_V) && Nat.beq q.1 (i + 1))))) st M B) : mg_G p l e R s m args below meth c Q D nL AC AS pc L (.inr (.inl x) :: st) M B := by
  intro H locs cells slots ls hH hS hF hst hc hs
  obtain ⟨ls', h1, h2⟩ := mg_storeS (v := .inr (.inl x)) hF (hst _ List.mem_cons_self) (i := i) (Or.inr ⟨hn, rfl⟩)
  obtain k2 := k H locs cells slots ls' hH hS h2 (fun w hw => hst w (List.mem_cons_of_mem _ hw)) hc hs
  intro T hT X
  obtain ⟨t, a, b⟩ := k2 T hT X
  refine ⟨t, ?_, b⟩
  have h1 : storeLocals ls i (mg_tv (.inr (.inl x))) = some ls' := h1
  subst hi
  simp only [mg_tv] at h1
  simp only [List.map_cons, mg_tv]
  jvm_step X.here [X.here.top, hx, hb, hdg, h1]
  exact ⟨rfl, a⟩
theorem gs_astore (hx : p.tables.exec = Jvm.exec) (hb : c.code = cc) {i : Nat} {x : Nat} (hn : i < nL) (hdg : decode cc pc = .ok (.astore i, 2)) (k : mg_G p l e R s m args below meth c Q D nL AC AS (pc + 2) ((i, .inr (.inl x)) :: L.filter (fun q => !(Nat.beq q.1 i || (Nat.beq (q.1 + 1) i && mg_cat2 q.2) || (mg_cat2 (.inr (.inl x) : mg_V) && Nat.beq q.1 (i + 1))))) st M B) : mg_G p l e R s m args below meth c Q D nL AC AS pc L (.inr (.inl x) :: st) M B := by
  intro H locs cells slots ls hH hS hF hst hc hs
  obtain ⟨ls', h1, h2⟩ := mg_storeS (v := .inr (.inl x)) hF (hst _ List.mem_cons_self) (i := i) (Or.inr ⟨hn, rfl⟩)
  obtain k2 := k H locs cells slots ls' hH hS h2 (fun w hw => hst w (List.mem_cons_of_mem _ hw)) hc hs
  intro T hT X
  obtain ⟨t, a, b⟩ := k2 T hT X
  refine ⟨t, ?_, b⟩
  have h1 : storeLocals ls i (mg_tv (.inr (.inl x))) = some ls' := h1
  simp only [mg_tv] at h1
  simp only [List.map_cons, mg_tv]
  jvm_step X.here [X.here.top, hx, hb, hdg, h1]
  exact ⟨rfl, a⟩
theorem gs_lstore_n (hx : p.tables.exec = Jvm.exec) (hb : c.code = cc) {n : Fin 4} {i : Nat} {x : Int} (hi : (n : Nat) = i) (hn : i + 1 < nL) (hdg : decode cc pc = .ok (.lstore_n n, 1)) (k : mg_G p l e R s m args below meth c Q D nL AC AS (pc + 1) ((i, .inr (.inr (.inl x))) :: L.filter (fun q => !(Nat.beq q.1 i || (Nat.beq (q.1 + 1) i && mg_cat2 q.2) || (mg_cat2 (.inr (.inr (.inl x)) : mg_V) && Nat.beq q.1 (i + 1))))) st M B) : mg_G p l e R s m args below meth c Q D nL AC AS pc L (.inr (.inr (.inl x)) :: st) M B := by
  intro H locs cells slots ls hH hS hF hst hc hs
  obtain ⟨ls', h1, h2⟩ := mg_storeS (v := .inr (.inr (.inl x))) hF (hst _ List.mem_cons_self) (i := i) (Or.inl hn)
  obtain k2 := k H locs cells slots ls' hH hS h2 (fun w hw => hst w (List.mem_cons_of_mem _ hw)) hc hs
  intro T hT X
  obtain ⟨t, a, b⟩ := k2 T hT X
  refine ⟨t, ?_, b⟩
  have h1 : storeLocals ls i (mg_tv (.inr (.inr (.inl x)))) = some ls' := h1
  subst hi
  simp only [mg_tv] at h1
  simp only [List.map_cons, mg_tv]
  jvm_step X.here [X.here.top, hx, hb, hdg, h1]
  exact a
theorem gs_lstore (hx : p.tables.exec = Jvm.exec) (hb : c.code = cc) {i : Nat} {x : Int} (hn : i + 1 < nL) (hdg : decode cc pc = .ok (.lstore i, 2)) (k : mg_G p l e R s m args below meth c Q D nL AC AS (pc + 2) ((i, .inr (.inr (.inl x))) :: L.filter (fun q => !(Nat.beq q.1 i || (Nat.beq (q.1 + 1) i && mg_cat2 q.2) || (mg_cat2 (.inr (.inr (.inl x)) : mg_V) && Nat.beq q.1 (i + 1))))) st M B) : mg_G p l e R s m args below meth c Q D nL AC AS pc L (.inr (.inr (.inl x)) :: st) M B := by
  intro H locs cells slots ls hH hS hF hst hc hs
  obtain ⟨ls', h1, h2⟩ := mg_storeS (v := .inr (.inr (.inl x))) hF (hst _ List.mem_cons_self) (i := i) (Or.inl hn)
  obtain k2 := k H locs cells slots ls' hH hS h2 (fun w hw => hst w (List.mem_cons_of_mem _ hw)) hc hs
  intro T hT X
  obtain ⟨t, a, b⟩ := k2 T hT X
  refine ⟨t, ?_, b⟩
  have h1 : storeLocals ls i (mg_tv (.inr (.inr (.inl x)))) = some ls' := h1
  simp only [mg_tv] at h1
  simp only [List.map_cons, mg_tv]
  jvm_step X.here [X.here.top, hx, hb, hdg, h1]
  exact a
theorem gs_dstore_n (hx : p.tables.exec = Jvm.exec) (hb : c.code = cc) {n : Fin 4} {i : Nat} {x : UInt64} (hi : (n : Nat) = i) (hn : i + 1 < nL) (hdg : decode cc pc = .ok (.dstore_n n, 1)) (k : mg_G p l e R s m args below meth c Q D nL AC AS (pc + 1) ((i, .inr (.inr (.inr (.inl x)))) :: L.filter (fun q => !(Nat.beq q.1 i || (Nat.beq (q.1 + 1) i && mg_cat2 q.2) || (mg_cat2 (.inr (.inr (.inr (.inl x))) : mg_V) && Nat.beq q.1 (i + 1))))) st M B) : mg_G p l e R s m args below meth c Q D nL AC AS pc L (.inr (.inr (.inr (.inl x))) :: st) M B := by
  intro H locs cells slots ls hH hS hF hst hc hs
  obtain ⟨ls', h1, h2⟩ := mg_storeS (v := .inr (.inr (.inr (.inl x)))) hF (hst _ List.mem_cons_self) (i := i) (Or.inl hn)
  obtain k2 := k H locs cells slots ls' hH hS h2 (fun w hw => hst w (List.mem_cons_of_mem _ hw)) hc hs
  intro T hT X
  obtain ⟨t, a, b⟩ := k2 T hT X
  refine ⟨t, ?_, b⟩
  have h1 : storeLocals ls i (mg_tv (.inr (.inr (.inr (.inl x))))) = some ls' := h1
  subst hi
  simp only [mg_tv] at h1
  simp only [List.map_cons, mg_tv]
  jvm_step X.here [X.here.top, hx, hb, hdg, h1]
  exact a
theorem gs_dstore (hx : p.tables.exec = Jvm.exec) (hb : c.code = cc) {i : Nat} {x : UInt64} (hn : i + 1 < nL) (hdg : decode cc pc = .ok (.dstore i, 2)) (k : mg_G p l e R s m args below meth c Q D nL AC AS (pc + 2) ((i, .inr (.inr (.inr (.inl x)))) :: L.filter (fun q => !(Nat.beq q.1 i || (Nat.beq (q.1 + 1) i && mg_cat2 q.2) || (mg_cat2 (.inr (.inr (.inr (.inl x))) : mg_V) && Nat.beq q.1 (i + 1))))) st M B) : mg_G p l e R s m args below meth c Q D nL AC AS pc L (.inr (.inr (.inr (.inl x))) :: st) M B := by
  intro H locs cells slots ls hH hS hF hst hc hs
  obtain ⟨ls', h1, h2⟩ := mg_storeS (v := .inr (.inr (.inr (.inl x)))) hF (hst _ List.mem_cons_self) (i := i) (Or.inl hn)
  obtain k2 := k H locs cells slots ls' hH hS h2 (fun w hw => hst w (List.mem_cons_of_mem _ hw)) hc hs
  intro T hT X
  obtain ⟨t, a, b⟩ := k2 T hT X
  refine ⟨t, ?_, b⟩
  have h1 : storeLocals ls i (mg_tv (.inr (.inr (.inr (.inl x))))) = some ls' := h1
  simp only [mg_tv] at h1
  simp only [List.map_cons, mg_tv]
  jvm_step X.here [X.here.top, hx, hb, hdg, h1]
  exact a
theorem gs_iinc (hx : p.tables.exec = Jvm.exec) (hb : c.code = cc) {i : Nat} {n x : Int} (hl : (i, (.inl x : mg_V)) ∈ L) (hr : -2147483648 ≤ x + n ∧ x + n < 2147483648) (hn : i < nL) (hdg : decode cc pc = .ok (.iinc i n, 3)) (k : mg_G p l e R s m args below meth c Q D nL AC AS (pc + 3) ((i, .inl (x + n)) :: L.filter (fun q => !(Nat.beq q.1 i || (Nat.beq (q.1 + 1) i && mg_cat2 q.2) || (mg_cat2 (.inl (x + n) : mg_V) && Nat.beq q.1 (i + 1))))) st M B) : mg_G p l e R s m args below meth c Q D nL AC AS pc L st M B := by
  intro H locs cells slots ls hH hS hF hst hc hs
  obtain ⟨ls', h1, h2⟩ := mg_storeS (v := .inl (x + n)) hF hr (i := i) (Or.inr ⟨hn, rfl⟩)
  obtain k2 := k H locs cells slots ls' hH hS h2 hst hc hs
  intro T hT X
  obtain ⟨t, a, b⟩ := k2 T hT X
  refine ⟨t, ?_, b⟩
  have h3 : ls[i]? = some (.val (.int (Int32.ofInt x))) := hF.at hl
  have h1 : storeLocals ls i (.int (Int32.ofInt (x + n))) = some ls' := h1
  rw [Int32.ofInt_add] at h1
  jvm_step X.here [X.here.top, hx, hb, hdg, h1, h3]
  exact a
theorem gs_dupi (hx : p.tables.exec = Jvm.exec) (hb : c.code = cc) {x : Int} (hdg : decode cc pc = .ok (.dup, 1)) (k : mg_G p l e R s m args below meth c Q D nL AC AS (pc + 1) L (.inl x :: .inl x :: st) M B) : mg_G p l e R s m args below meth c Q D nL AC AS pc L (.inl x :: st) M B :=
  gs_pure k fun H locs cells slots ls hF hst => ⟨mg_okc (hst _ List.mem_cons_self) hst, fun k => lv_dup hx hb hdg rfl k⟩
theorem gs_dupa (hx : p.tables.exec = Jvm.exec) (hb : c.code = cc) {x : Nat} (hdg : decode cc pc = .ok (.dup, 1)) (k : mg_G p l e R s m args below meth c Q D nL AC AS (pc + 1) L (.inr (.inl x) :: .inr (.inl x) :: st) M B) : mg_G p l e R s m args below meth c Q D nL AC AS pc L (.inr (.inl x) :: st) M B :=
  gs_pure k fun H locs cells slots ls hF hst => ⟨mg_okc (hst _ List.mem_cons_self) hst, fun k => lv_dup hx hb hdg rfl k⟩
theorem gs_popi (hx : p.tables.exec = Jvm.exec) (hb : c.code = cc) {x : Int} (hdg : decode cc pc = .ok (.pop, 1)) (k : mg_G p l e R s m args below meth c Q D nL AC AS (pc + 1) L st M B) : mg_G p l e R s m args below meth c Q D nL AC AS pc L (.inl x :: st) M B :=
  gs_pure k fun H locs cells slots ls hF hst => ⟨fun w hw => hst w (List.mem_cons_of_mem _ hw), fun k => lv_pop hx hb hdg rfl k⟩
theorem gs_popa (hx : p.tables.exec = Jvm.exec) (hb : c.code = cc) {x : Nat} (hdg : decode cc pc = .ok (.pop, 1)) (k : mg_G p l e R s m args below meth c Q D nL AC AS (pc + 1) L st M B) : mg_G p l e R s m args below meth c Q D nL AC AS pc L (.inr (.inl x) :: st) M B :=
  gs_pure k fun H locs cells slots ls hF hst => ⟨fun w hw => hst w (List.mem_cons_of_mem _ hw), fun k => lv_pop hx hb hdg rfl k⟩
theorem gs_dup2 (hx : p.tables.exec = Jvm.exec) (hb : c.code = cc) {x : Int} {y : Nat} (hdg : decode cc pc = .ok (.dup2, 1)) (k : mg_G p l e R s m args below meth c Q D nL AC AS (pc + 1) L (.inl x :: .inr (.inl y) :: .inl x :: .inr (.inl y) :: st) M B) : mg_G p l e R s m args below meth c Q D nL AC AS pc L (.inl x :: .inr (.inl y) :: st) M B :=
  gs_pure k fun H locs cells slots ls hF hst => ⟨mg_okc (hst _ List.mem_cons_self) (mg_okc (hst _ (List.mem_cons_of_mem _ List.mem_cons_self)) hst), fun k => lv_dup2_11 hx hb hdg rfl rfl k⟩
theorem gs_goto (hx : p.tables.exec = Jvm.exec) (hb : c.code = cc) {off : Int} {a : Nat} (ht : (pc : Int) + off = (a : Int)) (hdg : decode cc pc = .ok (.goto off, 3)) (k : mg_G p l e R s m args below meth c Q D nL AC AS a L st M B) : mg_G p l e R s m args below meth c Q D nL AC AS pc L st M B :=
  gs_pure k fun H locs cells slots ls hF hst => ⟨hst, fun k => lv_goto hx hb hdg ht k⟩
theorem gs_icmp (hx : p.tables.exec = Jvm.exec) (hb : c.code = cc) {off : Int} {a : Nat} {op : Jvm.ClassFile.Cond} {x y : Int} (ht : (pc : Int) + off = (a : Int)) (hdg : decode cc pc = .ok (.if_icmp op off, 3)) (k : mg_if op x y (mg_G p l e R s m args below meth c Q D nL AC AS a L st M B) (mg_G p l e R s m args below meth c Q D nL AC AS (pc + 3) L st M B)) : mg_G p l e R s m args below meth c Q D nL AC AS pc L (.inl y :: .inl x :: st) M B := by
  intro H locs cells slots ls hH hS hF hst hc hs
  refine mg_ok2 hst fun hy hst => mg_ok2 hst fun hx1 hst => ?_
  have go : ∀ {pc' : Nat}, mg_G p l e R s m args below meth c Q D nL AC AS pc' L st M B → W p l e R s m args below meth c H locs cells slots Q (F0 m pc' ls (st.map mg_tv)) := fun k => k H locs cells slots ls hH hS hF hst hc hs
  cases op
  · exact lv_icmp_eq hx hb hdg ht (fun h => go (k.1 ((mg_eq hx1 hy).mp h))) (fun h => go (k.2 (fun q => h ((mg_eq hx1 hy).mpr q))))
  · exact lv_icmp_ne hx hb hdg ht (fun h => go (k.1 (fun q => h ((mg_eq hx1 hy).mpr q)))) (fun h => go (k.2 ((mg_eq hx1 hy).mp h)))
  · exact lv_icmp_lt hx hb hdg ht (fun h => go (k.1 ((mg_lt hx1 hy).mp h))) (fun h => go (k.2 (Int.not_lt.mp (fun q => h ((mg_lt hx1 hy).mpr q)))))
  · exact lv_icmp_ge hx hb hdg ht (fun h => go (k.1 ((mg_le hy hx1).mp h))) (fun h => go (k.2 (Int.not_le.mp (fun q => h ((mg_le hy hx1).mpr q)))))
  · exact lv_icmp_gt hx hb hdg ht (fun h => go (k.1 ((mg_lt hy hx1).mp h))) (fun h => go (k.2 (Int.not_lt.mp (fun q => h ((mg_lt hy hx1).mpr q)))))
  · exact lv_icmp_le hx hb hdg ht (fun h => go (k.1 ((mg_le hx1 hy).mp h))) (fun h => go (k.2 (Int.not_le.mp (fun q => h ((mg_le hx1 hy).mpr q)))))
theorem gs_ifc (hx : p.tables.exec = Jvm.exec) (hb : c.code = cc) {off : Int} {a : Nat} {op : Jvm.ClassFile.Cond} {x : Int} (ht : (pc : Int) + off = (a : Int)) (hdg : decode cc pc = .ok (.ifCond op off, 3)) (k : mg_if op x 0 (mg_G p l e R s m args below meth c Q D nL AC AS a L st M B) (mg_G p l e R s m args below meth c Q D nL AC AS (pc + 3) L st M B)) : mg_G p l e R s m args below meth c Q D nL AC AS pc L (.inl x :: st) M B := by
  intro H locs cells slots ls hH hS hF hst hc hs
  refine mg_ok2 hst fun hx1 hst => ?_
  have hy : mg_ok (.inl 0) := by show _ ∧ _; omega
  have go : ∀ {pc' : Nat}, mg_G p l e R s m args below meth c Q D nL AC AS pc' L st M B → W p l e R s m args below meth c H locs cells slots Q (F0 m pc' ls (st.map mg_tv)) := fun k => k H locs cells slots ls hH hS hF hst hc hs
  cases op
  · exact lv_if_eq hx hb hdg ht (fun h => go (k.1 ((mg_eq hx1 hy).mp h))) (fun h => go (k.2 (fun q => h ((mg_eq hx1 hy).mpr q))))
  · exact lv_if_ne hx hb hdg ht (fun h => go (k.1 (fun q => h ((mg_eq hx1 hy).mpr q)))) (fun h => go (k.2 ((mg_eq hx1 hy).mp h)))
  · exact lv_if_lt hx hb hdg ht (fun h => go (k.1 ((mg_lt hx1 hy).mp h))) (fun h => go (k.2 (Int.not_lt.mp (fun q => h ((mg_lt hx1 hy).mpr q)))))
  · exact lv_if_ge hx hb hdg ht (fun h => go (k.1 ((mg_le hy hx1).mp h))) (fun h => go (k.2 (Int.not_le.mp (fun q => h ((mg_le hy hx1).mpr q)))))
  · exact lv_if_gt hx hb hdg ht (fun h => go (k.1 ((mg_lt hy hx1).mp h))) (fun h => go (k.2 (Int.not_lt.mp (fun q => h ((mg_lt hy hx1).mpr q)))))
  · exact lv_if_le hx hb hdg ht (fun h => go (k.1 ((mg_le hx1 hy).mp h))) (fun h => go (k.2 (Int.not_le.mp (fun q => h ((mg_le hx1 hy).mpr q)))))
end MGI
end
section
/-! one row an instruction: objects and arrays -/
theorem mg_mem {l : List Cond} {ps : List Nat} (h : l.map some = ps.map (fun i => lw_tbl[i]?)) (hg : l.all goodWord = true) : ∀ w ∈ l, w ∈ mg_T := by
  intro w hw
  refine List.mem_filter.mpr ⟨?_, List.all_eq_true.mp hg w hw⟩
  have h1 : some w ∈ ps.map (fun i => lw_tbl[i]?) := by rw [← h]; exact List.mem_map.mpr ⟨w, hw, rfl⟩
  obtain ⟨i, -, hi⟩ := List.mem_map.mp h1
  exact List.mem_of_getElem? hi
theorem mg_lays {a : Nat} (h1 : 1 ≤ a) (h7 : a ≤ 7) : ∀ w ∈ u_ws (mg_R a) (mg_F a) (mg_N a), w ∈ mg_T := by
  have : a = 1 ∨ a = 2 ∨ a = 3 ∨ a = 4 ∨ a = 5 ∨ a = 6 ∨ a = 7 := by omega
  rcases this with rfl | rfl | rfl | rfl | rfl | rfl | rfl
  · exact mg_mem mg_lay1.1 mg_lay1.2
  · exact mg_mem mg_lay2.1 mg_lay2.2
  · exact mg_mem mg_lay3.1 mg_lay3.2
  · exact mg_mem mg_lay4.1 mg_lay4.2
  · exact mg_mem mg_lay5.1 mg_lay5.2
  · exact mg_mem mg_lay6.1 mg_lay6.2
  · exact mg_mem mg_lay7.1 mg_lay7.2
theorem mg_nms {a : Nat} (h1 : 1 ≤ a) (h7 : a ≤ 7) : (∀ x, x < mg_N a → ∀ y, y < mg_N a → x ≠ y → (mg_F a x).2.1 ≠ (mg_F a y).2.1) ∧ (∀ k, k < mg_N a → parseFieldDescriptor (mg_F a k).2.2.1 = some (mg_ty a k)) ∧ (∀ k, k < mg_N a → (mg_F a k).1 = mg_R a) := by
  have : a = 1 ∨ a = 2 ∨ a = 3 ∨ a = 4 ∨ a = 5 ∨ a = 6 ∨ a = 7 := by omega
  rcases this with rfl | rfl | rfl | rfl | rfl | rfl | rfl
  · exact mg_nm1
  · exact mg_nm2
  · exact mg_nm3
  · exact mg_nm4
  · exact mg_nm5
  · exact mg_nm6
  · exact mg_nm7
theorem mg_clk {a : Nat} (h1 : 1 ≤ a) (h7 : a ≤ 7) : mg_cl[a - 1]? = some (mg_R a, mg_F a, mg_N a) := by
  have : a = 1 ∨ a = 2 ∨ a = 3 ∨ a = 4 ∨ a = 5 ∨ a = 6 ∨ a = 7 := by omega
  rcases this with rfl | rfl | rfl | rfl | rfl | rfl | rfl <;> rfl
/-- 0 int, 1 reference, 2 boolean -/
def mg_tc (a b : Nat) : Nat := match mg_ty a b with
  | .int => 0
  | .boolean => 2
  | .object _ => 1
  | .array _ => 1
  | _ => 3
theorem mg_fs_at {M : mg_M} {r a k : Nat} (hk : k < mg_N a) : (mg_fs M r a)[k]? = some (mg_fv M r a k) := by
  simp [mg_fs, hk]
theorem mg_fv_i {M : mg_M} {r a k : Nat} (h : mg_tc a k ≠ 1) (h3 : mg_tc a k ≠ 3) : mg_fv M r a k = .int (Int32.ofInt (gi M r k)) := by
  unfold mg_tc at h h3
  unfold mg_fv
  cases h9 : mg_ty a k <;> simp_all
theorem mg_fv_r {M : mg_M} {r a k : Nat} (h : mg_tc a k = 1) : mg_fv M r a k = va_rf (mg_rO (gr M r k)) := by
  unfold mg_tc at h
  unfold mg_fv
  cases h9 : mg_ty a k <;> simp_all
theorem mg_rf {n : Nat} (h : n ≠ 0) : va_rf (mg_rO n) = .ref n := by
  simp [mg_rO, h, va_rf]
theorem mg_P1 {D : mg_D} {q : Nat × va_E} {H : Heap} (h : va_at (D.1, D.2.1) mg_cl q H) : va_P (D.1, D.2.1) mg_cl [q] H := by
  intro k q' hk
  match k, hk with
  | 0, hk => cases hk; exact h
  | k + 1, hk => cases hk
theorem mg_H_upd {D : mg_D} {M M' : mg_M} {s : State} {H H' : Heap} (hH : mg_H D M s H) {r : Nat} (hr : D.2.2.2 ≤ r) (hnx : nx M' = nx M) (hkd : ∀ a, kd M' a = kd M a) (hln : ∀ a, ln M' a = ln M a)
    (hoth : ∀ a, a ≠ r → (∀ k, gi M' a k = gi M a k) ∧ (∀ k, gr M' a k = gr M a k) ∧ (∀ k, gl M' a k = gl M a k) ∧ (∀ k, gd M' a k = gd M a k))
    (h1 : ∀ a k, -2147483648 ≤ gi M' a k ∧ gi M' a k < 2147483648) (h2 : ∀ a k, -9223372036854775808 ≤ gl M' a k ∧ gl M' a k < 9223372036854775808)
    (hz : H'.size = H.size) (oq : ∀ q, q ≠ r → H'[q]? = H[q]?) (hat : va_at (D.1, D.2.1) mg_cl (r, mg_cF D M' r) H') : mg_H D M' s H' := by
  obtain ⟨g1, g2, g3, g4, g5, g6, -, -⟩ := hH
  refine ⟨by rw [hnx, hz]; exact g1, by rw [hz]; exact g2, g3, fun a q1 q2 => ?_, fun a q1 => ?_, fun a => by rw [hkd]; exact g6 a, h1, h2⟩
  · rw [hkd] at q1 q2
    obtain ⟨f1, f2⟩ := g4 a q1 q2
    by_cases ha : a = r
    · subst ha
      exact ⟨hat, f2⟩
    · obtain ⟨o1, o2, o3, o4⟩ := hoth a ha
      have e : mg_cF D M' a = mg_cF D M a := by
        unfold mg_cF mg_fs mg_fv
        simp only [hkd, hln, o1, o2, o3, o4]
      rw [e]
      exact ⟨f1.kept (oq a ha), f2⟩
  · rw [hkd] at q1
    obtain ⟨f1, f2⟩ := g5 a q1
    have ha : a ≠ r := by omega
    obtain ⟨o1, -⟩ := hoth a ha
    refine ⟨?_, f2⟩
    obtain ⟨scr, e1, e2, e3, e4, e5⟩ := f1
    refine ⟨scr, by rw [oq a ha]; exact e1, e2, e3, by rw [hln]; exact e4, fun j hj => ?_⟩
    rw [hln] at hj
    rw [e5 j hj]; simp only [o1]
section MGH
variable {p : Program} {l : Launch} {e : Env} {R : Room} {s : State} {m : MethodId} {args : Array Value} {below : List Frame} {meth : Method} {c : Code} {Q : State → Prop} {D : mg_D} {nL AC AS : Nat} {cc : ByteArray} {pc : Nat} {L : mg_L} {st : List mg_V} {M : mg_M} {B : Nat}
theorem gs_getf (hx : p.tables.exec = Jvm.exec) (hb : c.code = cc) (hts : ∀ w ∈ mg_T, w.before args s = true) {own : String} (hown : s.vm.findClass own = some m.cls) (hK : va_K (D.1, D.2.1) mg_cl (mg_tys D) s)
    {i a b r : Nat} (ha : 1 ≤ a) (ha7 : a ≤ 7) (hb2 : b < mg_N a) (hl : Cond.fieldLink own i (mg_F a b).1 (mg_F a b).2.1 (mg_F a b).2.2.1 ∈ mg_T) (hr : kd M r = a) (hdg : decode cc pc = .ok (.getfield i, 3))
    {v : mg_V} (hv : mg_fv M r a b = mg_tv v) (hok : (-2147483648 ≤ gi M r b ∧ gi M r b < 2147483648) → mg_ok v) (k : mg_G p l e R s m args below meth c Q D nL AC AS (pc + 3) L (v :: st) M B) : mg_G p l e R s m args below meth c Q D nL AC AS pc L (.inr (.inl r) :: st) M B := by
  intro H locs cells slots ls hH hS hF hst hc hs
  have k2 := k H locs cells slots ls hH hS hF (mg_okc (hok (hH.2.2.2.2.2.2.1 r b)) (fun w hw => hst w (List.mem_cons_of_mem _ hw))) hc hs
  obtain ⟨f1, f2⟩ := hH.2.2.2.1 r (by omega) (by omega)
  have f3 : mg_cF D M r = .inr (a - 1, mg_fs M r a) := by unfold mg_cF; rw [hr, if_pos ha7]
  rw [f3] at f1
  refine va_get (D := (D.1, D.2.1)) (ws := [(r, .inr (a - 1, mg_fs M r a))]) (C := mg_R a) (T := mg_F a) (N := mg_N a) hx hb hts (mg_lays ha ha7) hown hK (mg_P1 f1) 0 rfl (mg_clk ha ha7) b hb2 (hts _ hl) (fun _ h => h) (mg_fs_at hb2) hdg ?_
  rw [hv]
  exact k2
theorem gs_put0 (hx : p.tables.exec = Jvm.exec) (hb : c.code = cc) (hts : ∀ w ∈ mg_T, w.before args s = true) {own : String} (hown : s.vm.findClass own = some m.cls) (hK : va_K (D.1, D.2.1) mg_cl (mg_tys D) s)
    {i a b r : Nat} (ha : 1 ≤ a) (ha7 : a ≤ 7) (hb2 : b < mg_N a) (hl : Cond.fieldLink own i (mg_F a b).1 (mg_F a b).2.1 (mg_F a b).2.2.1 ∈ mg_T) (hr : kd M r = a) (hdg : decode cc pc = .ok (.putfield i, 3))
    (hfin : (mg_F a b).2.2.2 = false ∨ ((mg_F a b).2.2.2 = true ∧ own = mg_R a ∧ meth.name = "<init>"))
    {v : mg_V} (hn : narrow (mg_ty a b) (mg_tv v) = mg_tv v) (hf : fits (mg_ty a b) (mg_tv v) = true) {M' : mg_M} (hnx : nx M' = nx M) (hkd : ∀ a, kd M' a = kd M a) (hln : ∀ a, ln M' a = ln M a)
    (hoth : ∀ a, a ≠ r → (∀ k, gi M' a k = gi M a k) ∧ (∀ k, gr M' a k = gr M a k) ∧ (∀ k, gl M' a k = gl M a k) ∧ (∀ k, gd M' a k = gd M a k))
    (h1 : mg_ok v → (∀ a k, -2147483648 ≤ gi M a k ∧ gi M a k < 2147483648) → ∀ a k, -2147483648 ≤ gi M' a k ∧ gi M' a k < 2147483648) (h2 : ∀ a k, gl M' a k = gl M a k)
    (hfv : ∀ j, j < mg_N a → mg_fv M' r a j = if j = b then mg_tv v else mg_fv M r a j)
    (k : mg_G p l e R s m args below meth c Q D nL AC AS (pc + 3) L st M' B) : mg_G p l e R s m args below meth c Q D nL AC AS pc L (v :: .inr (.inl r) :: st) M B := by
  intro H locs cells slots ls hH hS hF hst hc hs
  obtain ⟨f1, f2⟩ := hH.2.2.2.1 r (by omega) (by omega)
  have f3 : mg_cF D M r = .inr (a - 1, mg_fs M r a) := by unfold mg_cF; rw [hr, if_pos ha7]
  have f3' : mg_cF D M' r = .inr (a - 1, mg_fs M' r a) := by unfold mg_cF; rw [hkd, hr, if_pos ha7]
  rw [f3] at f1
  have hin := mg_lays ha ha7
  obtain ⟨n1, n2, n3⟩ := mg_nms ha ha7
  have hap := va_apart (own := own) hts hin (mg_ty a) n2 n1 hK (mg_clk ha ha7)
  obtain ⟨rr, g1, cell, q1, q2, q3, q4⟩ := f1
  cases Option.some.inj (g1.symm.trans (mg_clk ha ha7))
  obtain ⟨hSl, hfc, kC, hkC, hkind⟩ := hK.1 (a - 1) _ (mg_clk ha ha7)
  obtain ⟨cf, kf, fi, f, hi, hsl⟩ := hSl b hb2
  have hlay := hts _ (hin _ (u_in_lay hb2))
  have hst2 := (u_facts hfc hkC (u_lays hts hin hb2) hi).1
  have kk : ∀ H' : Heap, H'[r]? = some (cell.setSlot f.slot (mg_tv v)) → H'.size = H.size → (∀ q, q ≠ r → H'[q]? = H[q]?) → W p l e R s m args below meth c H' (locs ++ [⟨r, f.slot⟩]) cells slots Q (F0 m (pc + 3) ls (st.map mg_tv)) := by
    intro H' e1 e2 e3
    refine k H' _ cells slots ls (mg_H_upd hH f2 hnx hkd hln hoth (h1 (hst _ List.mem_cons_self) hH.2.2.2.2.2.2.1) (fun a k => by rw [h2]; exact hH.2.2.2.2.2.2.2 a k) e2 e3 ?_) (hS.put e2 e3 f2) hF (fun w hw => hst w (List.mem_cons_of_mem _ (List.mem_cons_of_mem _ hw))) hc hs
    rw [f3']
    rw [hsl] at e1
    refine ⟨_, mg_clk ha ha7, t_OB.to (V := updV (vp_V (mg_fs M r a)) b (mg_tv v)) ⟨_, e1, q2, q3, t_set q4 hap hb2 (mg_tv v)⟩ (fun j hj => ?_)⟩
    have w1 : vp_V (mg_fs M r a) j = mg_fv M r a j := by unfold vp_V; rw [List.getD_eq_getElem?_getD, mg_fs_at hj]; rfl
    have w2 : vp_V (mg_fs M' r a) j = mg_fv M' r a j := by unfold vp_V; rw [List.getD_eq_getElem?_getD, mg_fs_at hj]; rfl
    rw [w2, hfv j hj]
    unfold updV
    rw [w1]
  unfold u_lay at hlay
  rcases hfin with hfin | ⟨hfin, hdecl, hin2⟩
  · rw [if_neg (by rw [hfin]; decide)] at hlay
    have h6 := u_store hfc hkC hkind hlay hi (n2 b hb2) hn hf
    exact W.putK hx hb (f := f) ⟨hown, hts _ hl, ⟨_, _, _, hi⟩, hst2⟩ (by rw [q2]; exact h6) q1 q3 (by rw [hsl]; exact k2_hasslot (q4 b hb2)) rfl rfl hdg kk
  · rw [if_pos hfin] at hlay
    have hcf : m.cls = cf := by
      obtain ⟨_, _, c', _, _, _, -, -, hf', -, -, -, hown2, -⟩ := Cond.laysFinal_spec hlay
      have e1 : c' = cf := by have := hi.symm.trans hf'; simp at this; exact this.1.symm
      rw [n3 b hb2, ← hdecl] at hown2
      rw [← e1]; exact Option.some.inj (hown.symm.trans hown2)
    have h6 := u_fits hfc hkC hkind (Or.inr hlay) hi (n2 b hb2) hn hf
    exact W.putFinK hx hb hown (hts _ hl) hi hst2 hcf hin2 (by rw [q2]; exact h6) q1 q3 (by rw [hsl]; exact k2_hasslot (q4 b hb2)) rfl rfl hdg kk
end MGH
end
section
theorem mg_toN (i : Int) : (i.toNat : Int) = max i 0 := by omega
section MGA
variable {p : Program} {l : Launch} {e : Env} {R : Room} {s : State} {m : MethodId} {args : Array Value} {below : List Frame} {meth : Method} {c : Code} {Q : State → Prop} {D : mg_D} {nL AC AS : Nat} {cc : ByteArray} {pc : Nat} {L : mg_L} {st : List mg_V} {M : mg_M} {B : Nat}
theorem mg_cF8 {r : Nat} (h : kd M r = 8) : mg_cF D M r = .inl (D.2.2.1 8, ln M r, .inl (fun j => Int32.ofInt (gi M r j))) := by
  unfold mg_cF; rw [if_neg (by omega), if_pos h]
theorem mg_cF9 {r : Nat} (h : kd M r = 9) : mg_cF D M r = .inl (D.2.2.1 9, ln M r, .inr (.inr (.inr (.inr (fun j => mg_rO (gr M r j)))))) := by
  unfold mg_cF; rw [if_neg (by omega), if_neg (by omega), if_pos h]
theorem mg_cF10 {r : Nat} (h : kd M r = 10) : mg_cF D M r = .inl (D.2.2.1 10, ln M r, .inr (.inl (fun j => Int64.ofInt (gl M r j)))) := by
  unfold mg_cF; rw [if_neg (by omega), if_neg (by omega), if_neg (by omega), if_pos h]
theorem mg_cF11 {r : Nat} (h : kd M r = 11) : mg_cF D M r = .inl (D.2.2.1 11, ln M r, .inr (.inr (.inr (.inl (fun j => gd M r j))))) := by
  unfold mg_cF; rw [if_neg (by omega), if_neg (by omega), if_neg (by omega), if_neg (by omega)]
theorem gs_iald (hx : p.tables.exec = Jvm.exec) (hb : c.code = cc) (hK : va_K (D.1, D.2.1) mg_cl (mg_tys D) s) {r : Nat} {i : Int} (h : kd M r = 8 ∧ 0 ≤ i ∧ i < ln M r) (hdg : decode cc pc = .ok (.iaload, 1)) (k : mg_G p l e R s m args below meth c Q D nL AC AS (pc + 1) L (.inl (gi M r i.toNat) :: st) M B) : mg_G p l e R s m args below meth c Q D nL AC AS pc L (.inl i :: .inr (.inl r) :: st) M B := by
  intro H locs cells slots ls hH hS hF hst hc hs
  refine mg_ok2 hst fun hi hst1 => ?_
  have hi : -2147483648 ≤ i ∧ i < 2147483648 := hi
  have k2 := k H locs cells slots ls hH hS hF (mg_okc (hH.2.2.2.2.2.2.1 r i.toNat) (fun w hw => hst1 w (List.mem_cons_of_mem _ hw))) hc hs
  obtain ⟨f1, f2⟩ := hH.2.2.2.1 r (by omega) (by omega)
  rw [mg_cF8 h.1] at f1
  refine va_iald (D := (D.1, D.2.1)) (cl := mg_cl) hx hb hK (mg_P1 f1) 0 0 rfl rfl (mg_in hi h.2.1 h.2.2) hdg ?_
  rw [mg_clp hi]
  exact k2
theorem gs_ialdS (hx : p.tables.exec = Jvm.exec) (hb : c.code = cc) {r : Nat} {i : Int} (h : kd M r = 12 ∧ 0 ≤ i ∧ i < ln M r) (hdg : decode cc pc = .ok (.iaload, 1)) (k : mg_G p l e R s m args below meth c Q D nL AC AS (pc + 1) L (.inl (gi M r i.toNat) :: st) M B) : mg_G p l e R s m args below meth c Q D nL AC AS pc L (.inl i :: .inr (.inl r) :: st) M B := by
  intro H locs cells slots ls hH hS hF hst hc hs
  refine mg_ok2 hst fun hi hst1 => ?_
  have hi : -2147483648 ≤ i ∧ i < 2147483648 := hi
  have k2 := k H locs cells slots ls hH hS hF (mg_okc (hH.2.2.2.2.2.2.1 r i.toNat) (fun w hw => hst1 w (List.mem_cons_of_mem _ hw))) hc hs
  obtain ⟨⟨scr, h1, h2, h3, h4, h5⟩, f2⟩ := hH.2.2.2.2.1 r h.1
  have hin := mg_in hi h.2.1 h.2.2
  exact W.iald (v := .int (Int32.ofInt (gi M r i.toNat))) hx hb h1 h2 h3 (by rw [h4]; exact hin) (by rw [mg_clp hi]; exact h5 _ (by omega)) rfl rfl hdg k2
theorem gs_aald (hx : p.tables.exec = Jvm.exec) (hb : c.code = cc) (hK : va_K (D.1, D.2.1) mg_cl (mg_tys D) s) {r : Nat} {i : Int} (h : kd M r = 9 ∧ 0 ≤ i ∧ i < ln M r) (h0 : gr M r i.toNat ≠ 0) (hdg : decode cc pc = .ok (.aaload, 1)) (k : mg_G p l e R s m args below meth c Q D nL AC AS (pc + 1) L (.inr (.inl (gr M r i.toNat)) :: st) M B) : mg_G p l e R s m args below meth c Q D nL AC AS pc L (.inl i :: .inr (.inl r) :: st) M B := by
  intro H locs cells slots ls hH hS hF hst hc hs
  refine mg_ok2 hst fun hi hst1 => ?_
  have hi : -2147483648 ≤ i ∧ i < 2147483648 := hi
  have k2 := k H locs cells slots ls hH hS hF (mg_okc trivial (fun w hw => hst1 w (List.mem_cons_of_mem _ hw))) hc hs
  obtain ⟨f1, f2⟩ := hH.2.2.2.1 r (by omega) (by omega)
  rw [mg_cF9 h.1] at f1
  refine va_aldq (D := (D.1, D.2.1)) (cl := mg_cl) hx hb hK (mg_P1 f1) 0 1 rfl rfl (mg_in hi h.2.1 h.2.2) hdg ?_
  rw [mg_clp hi, mg_rf h0]
  exact k2
theorem gs_lald (hx : p.tables.exec = Jvm.exec) (hb : c.code = cc) (hK : va_K (D.1, D.2.1) mg_cl (mg_tys D) s) {r : Nat} {i : Int} (h : kd M r = 10 ∧ 0 ≤ i ∧ i < ln M r) (hdg : decode cc pc = .ok (.laload, 1)) (k : mg_G p l e R s m args below meth c Q D nL AC AS (pc + 1) L (.inr (.inr (.inl (gl M r i.toNat))) :: st) M B) : mg_G p l e R s m args below meth c Q D nL AC AS pc L (.inl i :: .inr (.inl r) :: st) M B := by
  intro H locs cells slots ls hH hS hF hst hc hs
  refine mg_ok2 hst fun hi hst1 => ?_
  have hi : -2147483648 ≤ i ∧ i < 2147483648 := hi
  have k2 := k H locs cells slots ls hH hS hF (mg_okc (hH.2.2.2.2.2.2.2 r i.toNat) (fun w hw => hst1 w (List.mem_cons_of_mem _ hw))) hc hs
  obtain ⟨f1, f2⟩ := hH.2.2.2.1 r (by omega) (by omega)
  rw [mg_cF10 h.1] at f1
  refine va_lald (D := (D.1, D.2.1)) (cl := mg_cl) hx hb hK (mg_P1 f1) 0 2 rfl rfl (mg_in hi h.2.1 h.2.2) hdg ?_
  rw [mg_clp hi]
  exact k2
theorem gs_dald (hx : p.tables.exec = Jvm.exec) (hb : c.code = cc) (hK : va_K (D.1, D.2.1) mg_cl (mg_tys D) s) {r : Nat} {i : Int} (h : kd M r = 11 ∧ 0 ≤ i ∧ i < ln M r) (hdg : decode cc pc = .ok (.daload, 1)) (k : mg_G p l e R s m args below meth c Q D nL AC AS (pc + 1) L (.inr (.inr (.inr (.inl (gd M r i.toNat)))) :: st) M B) : mg_G p l e R s m args below meth c Q D nL AC AS pc L (.inl i :: .inr (.inl r) :: st) M B := by
  intro H locs cells slots ls hH hS hF hst hc hs
  refine mg_ok2 hst fun hi hst1 => ?_
  have hi : -2147483648 ≤ i ∧ i < 2147483648 := hi
  have k2 := k H locs cells slots ls hH hS hF (mg_okc trivial (fun w hw => hst1 w (List.mem_cons_of_mem _ hw))) hc hs
  obtain ⟨f1, f2⟩ := hH.2.2.2.1 r (by omega) (by omega)
  rw [mg_cF11 h.1] at f1
  refine va_dald (D := (D.1, D.2.1)) (cl := mg_cl) hx hb hK (mg_P1 f1) 0 3 rfl rfl (mg_in hi h.2.1 h.2.2) hdg ?_
  rw [mg_clp hi]
  exact k2
theorem gs_iast (hx : p.tables.exec = Jvm.exec) (hb : c.code = cc) (hK : va_K (D.1, D.2.1) mg_cl (mg_tys D) s) {r : Nat} {i x : Int} (h : kd M r = 8 ∧ 0 ≤ i ∧ i < ln M r) (hdg : decode cc pc = .ok (.iastore, 1)) (k : mg_G p l e R s m args below meth c Q D nL AC AS (pc + 1) L st (si M r i.toNat x) B) : mg_G p l e R s m args below meth c Q D nL AC AS pc L (.inl x :: .inl i :: .inr (.inl r) :: st) M B := by
  intro H locs cells slots ls hH hS hF hst hc hs
  refine mg_ok2 hst fun hx1 hst1 => mg_ok2 hst1 fun hi hst2 => ?_
  have hi : -2147483648 ≤ i ∧ i < 2147483648 := hi
  have hx1 : -2147483648 ≤ x ∧ x < 2147483648 := hx1
  obtain ⟨f1, f2⟩ := hH.2.2.2.1 r (by omega) (by omega)
  rw [mg_cF8 h.1] at f1
  have hin := mg_in hi h.2.1 h.2.2
  refine W.iast (x := Int32.ofInt x) (j := Int32.ofInt i) hx hb f1 ((hK.2 0 _ rfl).1 _ _) (fun q => by cases q) (by show ¬ (_ ∨ (arrV _ _ _).slots.size ≤ _); rw [arrV_size]; exact hin) rfl rfl hdg fun H1 e1 z oq => ?_
  refine k H1 _ cells slots ls (mg_H_upd hH f2 rfl (fun _ => rfl) (fun _ => rfl) (fun a ha => ⟨fun k => ?_, fun _ => rfl, fun _ => rfl, fun _ => rfl⟩) (fun a k => ?_) hH.2.2.2.2.2.2.2 z oq ?_) (hS.put z oq f2) hF (fun w hw => hst2 w (List.mem_cons_of_mem _ hw)) hc hs
  · show (if a = r ∧ _ then _ else _) = _
    rw [if_neg (fun q => ha q.1)]; rfl
  · show _ ≤ (if a = r ∧ _ then _ else _) ∧ (if a = r ∧ _ then _ else _) < _
    split
    · exact hx1
    · exact hH.2.2.2.2.2.2.1 a k
  · rw [mg_cF8 (M := si M r i.toNat x) h.1]
    show H1[r]? = some (vp_cell _ _)
    rw [e1]
    rw [vp_cell_i, vp_cell_i, arrV_store, mg_clp hi]
    congr 2
    funext q
    show (if q = i.toNat then _ else _) = Value.int (Int32.ofInt (if r = r ∧ q = i.toNat then x else M.2.1 r q))
    by_cases hq : q = i.toNat
    · rw [if_pos hq, if_pos ⟨rfl, hq⟩]
    · rw [if_neg hq, if_neg (fun z => hq z.2)]; rfl
theorem gs_aast (hx : p.tables.exec = Jvm.exec) (hb : c.code = cc) (hK : va_K (D.1, D.2.1) mg_cl (mg_tys D) s) {r v : Nat} {i : Int} (h : kd M r = 9 ∧ 0 ≤ i ∧ i < ln M r) (hv : kd M v = 3) (hdg : decode cc pc = .ok (.aastore, 1)) (k : mg_G p l e R s m args below meth c Q D nL AC AS (pc + 1) L st (sr M r i.toNat v) B) : mg_G p l e R s m args below meth c Q D nL AC AS pc L (.inr (.inl v) :: .inl i :: .inr (.inl r) :: st) M B := by
  intro H locs cells slots ls hH hS hF hst hc hs
  refine mg_ok2 hst fun hx1 hst1 => mg_ok2 hst1 fun hi hst2 => ?_
  have hi : -2147483648 ≤ i ∧ i < 2147483648 := hi
  obtain ⟨f1, f2⟩ := hH.2.2.2.1 r (by omega) (by omega)
  obtain ⟨v1, v2⟩ := hH.2.2.2.1 v (by omega) (by omega)
  have v3 : mg_cF D M v = .inr (2, mg_fs M v 3) := by unfold mg_cF; rw [hv]; rfl
  rw [v3] at v1
  rw [mg_cF9 h.1] at f1
  have hin := mg_in hi h.2.1 h.2.2
  obtain ⟨r', hr', cellV, g1, g2, g3, -⟩ := v1
  cases Option.some.inj (hr'.symm.trans (mg_clk (a := 3) (by omega) (by omega)))
  have hcls := (hK.1 2 _ (mg_clk (a := 3) (by omega) (by omega))).2
  obtain ⟨kA, comp, k1, k2, k3, -⟩ := (hK.2 1 _ rfl).2
  have hcomp : comp = D.1 2 := Option.some.inj (k3.symm.trans hcls.1)
  subst hcomp
  obtain ⟨kC, hkC, -⟩ := hcls.2
  refine W.aast (j := Int32.ofInt i) hx hb f1 (fun q h => by cases h) (fun h => by cases h) k1 k2 rfl hkC ⟨mg_neg hi h.2.1, by show (Int32.ofInt i).toNatClampNeg < (arrV _ (ln M r) _).slots.size; rw [arrV_size, mg_clp hi]; have := h.2.2; omega⟩ g1 (fun q h => by rw [g3] at h; cases h) (by rw [g2]; exact hkC) (by rw [g2]; exact va_assign hcls) rfl rfl hdg fun H1 e1 z oq => ?_
  refine k H1 _ cells slots ls (mg_H_upd hH f2 rfl (fun _ => rfl) (fun _ => rfl) (fun a ha => ⟨fun _ => rfl, fun k => ?_, fun _ => rfl, fun _ => rfl⟩) hH.2.2.2.2.2.2.1 hH.2.2.2.2.2.2.2 z oq ?_) (hS.put z oq f2) hF (fun w hw => hst2 w (List.mem_cons_of_mem _ hw)) hc hs
  · show (if a = r ∧ _ then _ else _) = _
    rw [if_neg (fun q => ha q.1)]; rfl
  · rw [mg_cF9 (M := sr M r i.toNat v) h.1]
    show H1[r]? = some (vp_cell _ _)
    rw [e1]
    rw [vp_cell_q, vp_cell_q, arrV_store, mg_clp hi]
    congr 2
    funext q
    show (if q = i.toNat then _ else _) = va_rf (mg_rO (if r = r ∧ q = i.toNat then v else M.2.2.1 r q))
    by_cases hq : q = i.toNat
    · rw [if_pos hq, if_pos ⟨rfl, hq⟩, mg_rf (by have := hH.2.2.1; omega)]
    · rw [if_neg hq, if_neg (fun z => hq z.2)]; rfl
theorem gs_last (hx : p.tables.exec = Jvm.exec) (hb : c.code = cc) (hK : va_K (D.1, D.2.1) mg_cl (mg_tys D) s) {r : Nat} {i x : Int} (h : kd M r = 10 ∧ 0 ≤ i ∧ i < ln M r) (hdg : decode cc pc = .ok (.lastore, 1)) (k : mg_G p l e R s m args below meth c Q D nL AC AS (pc + 1) L st (sl M r i.toNat x) B) : mg_G p l e R s m args below meth c Q D nL AC AS pc L (.inr (.inr (.inl x)) :: .inl i :: .inr (.inl r) :: st) M B := by
  intro H locs cells slots ls hH hS hF hst hc hs
  refine mg_ok2 hst fun hx1 hst1 => mg_ok2 hst1 fun hi hst2 => ?_
  have hi : -2147483648 ≤ i ∧ i < 2147483648 := hi
  have hx1 : -9223372036854775808 ≤ x ∧ x < 9223372036854775808 := hx1
  obtain ⟨f1, f2⟩ := hH.2.2.2.1 r (by omega) (by omega)
  rw [mg_cF10 h.1] at f1
  have hin := mg_in hi h.2.1 h.2.2
  refine W.last (x := Int64.ofInt x) (j := Int32.ofInt i) hx hb f1 ((hK.2 2 _ rfl).1 _ _) (fun q => by cases q) (by show ¬ (_ ∨ (arrV _ _ _).slots.size ≤ _); rw [arrV_size]; exact hin) rfl rfl hdg fun H1 e1 z oq => ?_
  refine k H1 _ cells slots ls (mg_H_upd hH f2 rfl (fun _ => rfl) (fun _ => rfl) (fun a ha => ⟨fun _ => rfl, fun _ => rfl, fun k => ?_, fun _ => rfl⟩) hH.2.2.2.2.2.2.1 (fun a k => ?_) z oq ?_) (hS.put z oq f2) hF (fun w hw => hst2 w (List.mem_cons_of_mem _ hw)) hc hs
  · show (if a = r ∧ _ then _ else _) = _
    rw [if_neg (fun q => ha q.1)]; rfl
  · show _ ≤ (if a = r ∧ _ then _ else _) ∧ (if a = r ∧ _ then _ else _) < _
    split
    · exact hx1
    · exact hH.2.2.2.2.2.2.2 a k
  · rw [mg_cF10 (M := sl M r i.toNat x) h.1]
    show H1[r]? = some (vp_cell _ _)
    rw [e1]
    rw [vp_cell_l, vp_cell_l, arrV_store, mg_clp hi]
    congr 2
    funext q
    show (if q = i.toNat then _ else _) = Value.long (Int64.ofInt (if r = r ∧ q = i.toNat then x else M.2.2.2.1 r q))
    by_cases hq : q = i.toNat
    · rw [if_pos hq, if_pos ⟨rfl, hq⟩]
    · rw [if_neg hq, if_neg (fun z => hq z.2)]; rfl
theorem gs_dast (hx : p.tables.exec = Jvm.exec) (hb : c.code = cc) (hK : va_K (D.1, D.2.1) mg_cl (mg_tys D) s) {r : Nat} {i : Int} {x : UInt64} (h : kd M r = 11 ∧ 0 ≤ i ∧ i < ln M r) (hdg : decode cc pc = .ok (.dastore, 1)) (k : mg_G p l e R s m args below meth c Q D nL AC AS (pc + 1) L st (sd M r i.toNat x) B) : mg_G p l e R s m args below meth c Q D nL AC AS pc L (.inr (.inr (.inr (.inl x))) :: .inl i :: .inr (.inl r) :: st) M B := by
  intro H locs cells slots ls hH hS hF hst hc hs
  refine mg_ok2 hst fun hx1 hst1 => mg_ok2 hst1 fun hi hst2 => ?_
  have hi : -2147483648 ≤ i ∧ i < 2147483648 := hi
  obtain ⟨f1, f2⟩ := hH.2.2.2.1 r (by omega) (by omega)
  rw [mg_cF11 h.1] at f1
  have hin := mg_in hi h.2.1 h.2.2
  refine W.dast (x := x) (j := Int32.ofInt i) hx hb f1 ((hK.2 3 _ rfl).1 _ _) (fun q => by cases q) (by show ¬ (_ ∨ (arrV _ _ _).slots.size ≤ _); rw [arrV_size]; exact hin) rfl rfl hdg fun H1 e1 z oq => ?_
  refine k H1 _ cells slots ls (mg_H_upd hH f2 rfl (fun _ => rfl) (fun _ => rfl) (fun a ha => ⟨fun _ => rfl, fun _ => rfl, fun _ => rfl, fun k => ?_⟩) hH.2.2.2.2.2.2.1 hH.2.2.2.2.2.2.2 z oq ?_) (hS.put z oq f2) hF (fun w hw => hst2 w (List.mem_cons_of_mem _ hw)) hc hs
  · show (if a = r ∧ _ then _ else _) = _
    rw [if_neg (fun q => ha q.1)]; rfl
  · rw [mg_cF11 (M := sd M r i.toNat x) h.1]
    show H1[r]? = some (vp_cell _ _)
    rw [e1]
    rw [vp_cell_d, vp_cell_d, arrV_store, mg_clp hi]
    congr 2
    funext q
    show (if q = i.toNat then _ else _) = Value.double (if r = r ∧ q = i.toNat then x else M.2.2.2.2 r q)
    by_cases hq : q = i.toNat
    · rw [if_pos hq, if_pos ⟨rfl, hq⟩]
    · rw [if_neg hq, if_neg (fun z => hq z.2)]; rfl
theorem gs_alen (hx : p.tables.exec = Jvm.exec) (hb : c.code = cc) (hK : va_K (D.1, D.2.1) mg_cl (mg_tys D) s) {r : Nat} (h : kd M r = 8 ∨ kd M r = 9 ∨ kd M r = 12) (hln : ln M r < 2147483648) (hdg : decode cc pc = .ok (.arraylength, 1)) (k : mg_G p l e R s m args below meth c Q D nL AC AS (pc + 1) L (.inl (ln M r : Int) :: st) M B) : mg_G p l e R s m args below meth c Q D nL AC AS pc L (.inr (.inl r) :: st) M B := by
  intro H locs cells slots ls hH hS hF hst hc hs
  have k2 := k H locs cells slots ls hH hS hF (mg_okc (by show _ ∧ _; omega) (fun w hw => hst w (List.mem_cons_of_mem _ hw))) hc hs
  have e1 : Int32.ofNat (ln M r) = Int32.ofInt (ln M r : Int) := Int32.ofInt_eq_ofNat.symm
  rcases h with h | h | h
  · obtain ⟨f1, f2⟩ := hH.2.2.2.1 r (by omega) (by omega)
    rw [mg_cF8 h] at f1
    exact va_alen (D := (D.1, D.2.1)) (cl := mg_cl) hx hb hK (mg_P1 f1) 0 0 rfl rfl e1 hdg k2
  · obtain ⟨f1, f2⟩ := hH.2.2.2.1 r (by omega) (by omega)
    rw [mg_cF9 h] at f1
    exact va_alen (D := (D.1, D.2.1)) (cl := mg_cl) hx hb hK (mg_P1 f1) 0 1 rfl rfl e1 hdg k2
  · obtain ⟨⟨scr, h1, h2, h3, h4, h5⟩, f2⟩ := hH.2.2.2.2.1 r h
    exact W.alen (n := Int32.ofInt (ln M r : Int)) hx hb h1 h2 (by rw [h4]; exact e1) rfl rfl hdg k2
end MGA
end
section
theorem mg_tcs {a : Nat} (h1 : 1 ≤ a) (h7 : a ≤ 7) : ∀ k, k < mg_N a → mg_tc a k ≠ 3 := by
  have : a = 1 ∨ a = 2 ∨ a = 3 ∨ a = 4 ∨ a = 5 ∨ a = 6 ∨ a = 7 := by omega
  rcases this with rfl | rfl | rfl | rfl | rfl | rfl | rfl <;> decide +kernel
theorem mg_N160 {a : Nat} (h1 : 1 ≤ a) (h7 : a ≤ 7) : mg_N a ≤ 160 := by
  have : a = 1 ∨ a = 2 ∨ a = 3 ∨ a = 4 ∨ a = 5 ∨ a = 6 ∨ a = 7 := by omega
  rcases this with rfl | rfl | rfl | rfl | rfl | rfl | rfl <;> decide
theorem mg_H_al {D : mg_D} {M : mg_M} {s : State} {H H' : Heap} (hH : mg_H D M s H) {c n : Nat} (hc1 : 0 < c) (hc : c ≤ 11) (hz : H'.size = H.size + 1) (oq : ∀ q, q < H.size → H'[q]? = H[q]?)
    (hat : va_at (D.1, D.2.1) mg_cl (nx M, mg_cF D (al M c n) (nx M)) H') : mg_H D (al M c n) s H' := by
  obtain ⟨g1, g2, g3, g4, g5, g6, g7, g8⟩ := hH
  have hk : ∀ a, kd (al M c n) a = if a = nx M then c else kd M a := fun _ => rfl
  refine ⟨by rw [hz, ← g1]; rfl, by omega, g3, fun a q1 q2 => ?_, fun a q1 => ?_, fun a => ?_, fun a k => ?_, fun a k => ?_⟩
  · by_cases ha : a = nx M
    · subst ha
      exact ⟨hat, by omega⟩
    · rw [hk, if_neg ha] at q1 q2
      obtain ⟨f1, f2⟩ := g4 a q1 q2
      have e : mg_cF D (al M c n) a = mg_cF D M a := by
        have o1 : ∀ k, gi (al M c n) a k = gi M a k := fun k => if_neg ha
        have o2 : ∀ k, gr (al M c n) a k = gr M a k := fun k => if_neg ha
        have o3 : ∀ k, gl (al M c n) a k = gl M a k := fun k => if_neg ha
        have o4 : ∀ k, gd (al M c n) a k = gd M a k := fun k => if_neg ha
        have o5 : ln (al M c n) a = ln M a := if_neg ha
        have o6 : kd (al M c n) a = kd M a := by rw [hk, if_neg ha]
        unfold mg_cF mg_fs mg_fv
        simp only [o1, o2, o3, o4, o5, o6]
      rw [e]
      exact ⟨f1.kept (oq a f1.lt), f2⟩
  · have ha : a ≠ nx M := by
      intro ha
      rw [hk, if_pos ha] at q1
      omega
    rw [hk, if_neg ha] at q1
    obtain ⟨⟨scr, e1, e2, e3, e4, e5⟩, f2⟩ := g5 a q1
    have o1 : ∀ k, gi (al M c n) a k = gi M a k := fun k => if_neg ha
    have o5 : ln (al M c n) a = ln M a := if_neg ha
    refine ⟨⟨scr, by rw [oq a (by omega)]; exact e1, e2, e3, by rw [o5]; exact e4, fun j hj => ?_⟩, f2⟩
    rw [o5] at hj
    rw [e5 j hj]; simp only [o1]
  · rw [hk]
    split
    · omega
    · exact g6 a
  · show _ ≤ (if a = M.1.1 then _ else _) ∧ (if a = M.1.1 then _ else _) < _
    split
    · omega
    · exact g7 a k
  · show _ ≤ (if a = M.1.1 then _ else _) ∧ (if a = M.1.1 then _ else _) < _
    split
    · omega
    · exact g8 a k
section MGN
variable {p : Program} {l : Launch} {e : Env} {R : Room} {s : State} {m : MethodId} {args : Array Value} {below : List Frame} {meth : Method} {c : Code} {Q : State → Prop} {D : mg_D} {nL AC AS : Nat} {cc : ByteArray} {pc : Nat} {L : mg_L} {st : List mg_V} {M : mg_M} {B : Nat}
theorem gs_new (hx : p.tables.exec = Jvm.exec) (hb : c.code = cc) (hts : ∀ w ∈ mg_T, w.before args s = true) {own : String} (hown : s.vm.findClass own = some m.cls) (hK : va_K (D.1, D.2.1) mg_cl (mg_tys D) s) (hAC : AC ≤ R.cells) (hAS : AS ≤ R.slots)
    {i a : Nat} (ha : 1 ≤ a) (ha7 : a ≤ 7) (hcl : Cond.classLink own i (mg_R a) ∈ mg_T) (hin1 : Cond.instantiable (mg_R a) (mg_N a) ∈ mg_T) (hin2 : Cond.initialized (mg_R a) ∈ mg_T) (hB : 1 ≤ B) (hdg : decode cc pc = .ok (.new i, 3))
    (k : mg_G p l e R s m args below meth c Q D nL AC AS (pc + 3) L (.inr (.inl (nx M)) :: st) (al M a 0) (B - 1)) : mg_G p l e R s m args below meth c Q D nL AC AS pc L st M B := by
  intro H locs cells slots ls hH hS hF hst hc hs
  have hKn := hK.1 (a - 1) _ (mg_clk ha ha7)
  have hN := mg_N160 ha ha7
  have g1 : nx M = H.size := hH.1
  refine W.newcK hx hb hown (hts _ hcl) (hts _ hin1) (hts _ hin2) rfl hdg (by omega) (by omega) hKn.2.1 rfl fun H1 kC hkC e1 z1 o1 => ?_
  have k2 := k H1 locs (cells + 1) (slots + mg_N a) ls (mg_H_al hH (by omega) (by omega) z1 o1 ?_) ⟨Nat.le_trans hS.1 (by omega), fun x h1 h2 => (o1 x (Nat.lt_of_lt_of_le h1 hS.1)).trans (hS.2.1 x h1 h2), hS.2.2⟩ hF (mg_okc trivial hst) (by omega) (by omega)
  · rw [← g1]
    exact k2
  · have f3 : mg_cF D (al M a 0) (nx M) = .inr (a - 1, mg_fs (al M a 0) (nx M) a) := by
      have o6 : kd (al M a 0) (nx M) = a := if_pos rfl
      unfold mg_cF; rw [o6, if_pos ha7]
    rw [f3]
    refine ⟨_, mg_clk ha ha7, ?_⟩
    rw [g1]
    refine (u_born (mg_ty a) hts (mg_lays ha ha7) hKn hkC e1 (mg_nms ha ha7).2.1).to (fun j hj => ?_)
    rw [← g1]
    have w1 : vp_V (mg_fs (al M a 0) (nx M) a) j = mg_fv (al M a 0) (nx M) a j := by unfold vp_V; rw [List.getD_eq_getElem?_getD, mg_fs_at hj]; rfl
    rw [w1]
    have ht := mg_tcs ha ha7 j hj
    have o1 : gi (al M a 0) (nx M) j = 0 := if_pos rfl
    have o2 : gr (al M a 0) (nx M) j = 0 := if_pos rfl
    unfold mg_tc at ht
    unfold mg_fv
    rw [o1, o2]
    cases h9 : mg_ty a j <;> simp_all <;> rfl
theorem gs_newa (hx : p.tables.exec = Jvm.exec) (hb : c.code = cc) (hts : ∀ w ∈ mg_T, w.before args s = true) (hK : va_K (D.1, D.2.1) mg_cl (mg_tys D) s) (hAC : AC ≤ R.cells) (hAS : AS ≤ R.slots)
    {a : Nat} {t : ArrayType} (ha : (t = .int ∧ a = 8) ∨ (t = .long ∧ a = 10) ∨ (t = .double ∧ a = 11)) (hw : Cond.arrayClass (newarray.typeOf t) ∈ mg_T) {n : Int} (hn : 0 ≤ n ∧ n ≤ 160 ∧ 1 ≤ B) (hdg : decode cc pc = .ok (.newarray t, 2))
    (k : mg_G p l e R s m args below meth c Q D nL AC AS (pc + 2) L (.inr (.inl (nx M)) :: st) (al M a n.toNat) (B - 1)) : mg_G p l e R s m args below meth c Q D nL AC AS pc L (.inl n :: st) M B := by
  intro H locs cells slots ls hH hS hF hst hc hs
  have g1 : nx M = H.size := hH.1
  have hn2 : -2147483648 ≤ n ∧ n < 2147483648 := by omega
  refine va_newaK (n := Int32.ofInt n) (N := n.toNat) hx hb (hts _ hw) rfl hdg rfl (mg_neg hn2 hn.1) (mg_clp hn2) (by rcases ha with ⟨rfl, -⟩ | ⟨rfl, -⟩ | ⟨rfl, -⟩ <;> simp only [newarray.typeOf, componentBytes] <;> omega) (by omega) (by omega) rfl fun H1 cA e1 z1 o1 hAr hNm => ?_
  have k2 := k H1 locs (cells + 1) (slots + n.toNat) ls (mg_H_al hH (by omega) (by omega) z1 o1 ?_) ⟨Nat.le_trans hS.1 (by omega), fun x h1 h2 => (o1 x (Nat.lt_of_lt_of_le h1 hS.1)).trans (hS.2.1 x h1 h2), hS.2.2⟩ hF (mg_okc trivial (fun w hw => hst w (List.mem_cons_of_mem _ hw))) (by omega) (by omega)
  · rw [← g1]
    exact k2
  · have o6 : kd (al M a n.toNat) (nx M) = a := if_pos rfl
    have o7 : ln (al M a n.toNat) (nx M) = n.toNat := if_pos rfl
    have o1 : ∀ j, gi (al M a n.toNat) (nx M) j = 0 := fun j => if_pos rfl
    have o3 : ∀ j, gl (al M a n.toNat) (nx M) j = 0 := fun j => if_pos rfl
    have o4 : ∀ j, gd (al M a n.toNat) (nx M) j = 0 := fun j => if_pos rfl
    rcases ha with ⟨rfl, rfl⟩ | ⟨rfl, rfl⟩ | ⟨rfl, rfl⟩
    · rw [mg_cF8 o6, o7]
      have hc2 : cA = D.2.2.1 8 := Option.some.inj (hNm.symm.trans (hK.2 0 _ rfl).2)
      subst hc2
      rw [g1]
      show H1[H.size]? = some (vp_cell _ _)
      rw [e1, vp_cell_i]
      rw [← g1]
      simp only [o1]
      rfl
    · rw [mg_cF10 o6, o7]
      have hc2 : cA = D.2.2.1 10 := Option.some.inj (hNm.symm.trans (hK.2 2 _ rfl).2)
      subst hc2
      rw [g1]
      show H1[H.size]? = some (vp_cell _ _)
      rw [e1, vp_cell_l]
      rw [← g1]
      simp only [o3]
      rfl
    · rw [mg_cF11 o6, o7]
      have hc2 : cA = D.2.2.1 11 := Option.some.inj (hNm.symm.trans (hK.2 3 _ rfl).2)
      subst hc2
      rw [g1]
      show H1[H.size]? = some (vp_cell _ _)
      rw [e1, vp_cell_d]
      rw [← g1]
      simp only [o4]
      rfl
theorem gs_anew (hx : p.tables.exec = Jvm.exec) (hb : c.code = cc) (hts : ∀ w ∈ mg_T, w.before args s = true) {own : String} (hown : s.vm.findClass own = some m.cls) (hK : va_K (D.1, D.2.1) mg_cl (mg_tys D) s) (hAC : AC ≤ R.cells) (hAS : AS ≤ R.slots)
    {i : Nat} (hcl : Cond.classLink own i "MergeGrid$Cell" ∈ mg_T) (hov : va_AO "MergeGrid$Cell" s) {n : Int} (hn : 0 ≤ n ∧ n ≤ 160 ∧ 1 ≤ B) (hdg : decode cc pc = .ok (.anewarray i, 3))
    (k : mg_G p l e R s m args below meth c Q D nL AC AS (pc + 3) L (.inr (.inl (nx M)) :: st) (al M 9 n.toNat) (B - 1)) : mg_G p l e R s m args below meth c Q D nL AC AS pc L (.inl n :: st) M B := by
  intro H locs cells slots ls hH hS hF hst hc hs
  have g1 : nx M = H.size := hH.1
  have hn2 : -2147483648 ≤ n ∧ n < 2147483648 := by omega
  refine W.anew (n := Int32.ofInt n) hx hb hown (hts _ hcl) (va_AO.use hov) rfl hdg rfl (mg_neg hn2 hn.1) (by rw [mg_clp hn2]; omega) (by omega) (by rw [mg_clp hn2]; omega) fun cA kA comp f1 f2 f3 f4 => ?_
  rw [mg_clp hn2]
  generalize hH1 : H.push ({ cls := cA, slots := Array.replicate n.toNat .null, vm := .none } : Cell) = H1
  have z1 : H1.size = H.size + 1 := by rw [← hH1, Array.size_push]
  have e1 : H1[H.size]? = some (arrV cA n.toNat (fun _ => .null)) := by rw [← hH1, Array.getElem?_push_size, ← arrV_new]
  have o1 : ∀ q : Nat, q < H.size → H1[q]? = H[q]? := fun q hq => by rw [← hH1, Array.getElem?_push, if_neg (Nat.ne_of_lt hq)]
  have k2 := k H1 locs (cells + 1) (slots + n.toNat) ls (mg_H_al hH (by omega) (by omega) z1 o1 ?_) ⟨Nat.le_trans hS.1 (by omega), fun x h1 h2 => (o1 x (Nat.lt_of_lt_of_le h1 hS.1)).trans (hS.2.1 x h1 h2), hS.2.2⟩ hF (mg_okc trivial (fun w hw => hst w (List.mem_cons_of_mem _ hw))) (by omega) (by omega)
  · rw [← g1]
    exact k2
  · have o6 : kd (al M 9 n.toNat) (nx M) = 9 := if_pos rfl
    have o7 : ln (al M 9 n.toNat) (nx M) = n.toNat := if_pos rfl
    have o2 : ∀ j, gr (al M 9 n.toNat) (nx M) j = 0 := fun j => if_pos rfl
    rw [mg_cF9 o6, o7]
    obtain ⟨kA2, comp2, k1, k2', k3, k4⟩ := (hK.2 1 _ rfl).2
    have hc2 : cA = D.2.2.1 9 := Option.some.inj (f1.symm.trans k4)
    subst hc2
    rw [g1]
    show H1[H.size]? = some (vp_cell _ _)
    rw [e1, vp_cell_q]
    rw [← g1]
    simp only [o2]
    rfl
theorem gs_copy (hx : p.tables.exec = Jvm.exec) (hb : c.code = cc) (hml : c.maxLocals = nL) (hts : ∀ w ∈ mg_T, w.before args s = true) {own : String} (hown : s.vm.findClass own = some m.cls) (hK : va_K (D.1, D.2.1) mg_cl (mg_tys D) s) (hRf : 1 ≤ R.frames) (hRl : 60 ≤ R.locals)
    {i a b : Nat} {n : Int} (hlink : Cond.methodLink own i arraycopyName ∈ mg_T) (hnat : Cond.native arraycopyName ∈ mg_T) (hstat : Cond.static arraycopyName ∈ mg_T) (hini : Cond.initialized "java/lang/System" ∈ mg_T)
    (h : 0 ≤ n ∧ kd M a = 8 ∧ kd M b = 8 ∧ n ≤ ln M a ∧ n ≤ ln M b) (hlen : st.length ≤ 4) (hdg : decode cc pc = .ok (.invokestatic i, 3)) (k : mg_G p l e R s m args below meth c Q D nL AC AS (pc + 3) L st (cpy M a b n.toNat) B) :
    mg_G p l e R s m args below meth c Q D nL AC AS pc L (.inl n :: .inl 0 :: .inr (.inl b) :: .inl 0 :: .inr (.inl a) :: st) M B := by
  intro H locs cells slots ls hH hS hF hst hc hs
  obtain ⟨h0, ha, hb2, hla, hlb⟩ := h
  refine mg_ok2 hst fun hn hst1 => ?_
  have hn : -2147483648 ≤ n ∧ n < 2147483648 := hn
  have hst2 : ∀ w ∈ st, mg_ok w := fun w hw => hst1 w (by simp [hw])
  obtain ⟨f1, f2⟩ := hH.2.2.2.1 a (by omega) (by omega)
  obtain ⟨f3, f4⟩ := hH.2.2.2.1 b (by omega) (by omega)
  rw [mg_cF8 ha] at f1
  rw [mg_cF8 hb2] at f3
  have z0 : (0 : Int32).toNatClampNeg = 0 := rfl
  have e9 : copied (vp_cell (D.2.2.1 8) (ln M a, .inl (fun j => Int32.ofInt (gi M a j)))) (vp_cell (D.2.2.1 8) (ln M b, .inl (fun j => Int32.ofInt (gi M b j)))) 0 0 (Int32.ofInt n) = vp_cell (D.2.2.1 8) (ln M b, .inl (va_cpy (fun j => Int32.ofInt (gi M a j)) (fun j => Int32.ofInt (gi M b j)) 0 0 n.toNat)) := by
    have := va_copied (fun z => Value.int z) (D.2.2.1 8) (D.2.2.1 8) (n0 := ln M a) (n1 := ln M b) (sp := 0) (dp := 0) (n := n.toNat) (fun j => Int32.ofInt (gi M a j)) (fun j => Int32.ofInt (gi M b j)) (by omega)
    unfold copied
    rw [mg_clp hn]
    exact this
  have hsum := mg_sum st
  have hnf : nativeFrameWords "java/lang/System" "arraycopy" 5 + 11 ≤ 50 := by decide +kernel
  intro T hT X
  obtain ⟨-, k0, hk0, cm0, hkk0⟩ := (hK.2 0 _ rfl).1 (ln M a) (fun j => .int (Int32.ofInt (gi M a j)))
  obtain ⟨-, k1, hk1, cm1, hkk1⟩ := (hK.2 0 _ rfl).1 (ln M b) (fun j => .int (Int32.ofInt (gi M b j)))
  obtain ⟨vm', X', step⟩ := X.arraycopy hx hown (hts _ hlink) (hts _ hnat) (hts _ hstat) (hts _ hini) (src := a) (dst := b) (cs := vp_cell (D.2.2.1 8) (ln M a, .inl (fun j => Int32.ofInt (gi M a j)))) (cd := vp_cell (D.2.2.1 8) (ln M b, .inl (fun j => Int32.ofInt (gi M b j)))) (srcPos := 0) (destPos := 0) (n := Int32.ofInt n) (by rw [hT]; exact f1) (by rw [hT]; exact f3)
    (fun _ h => by cases h) (fun _ h => by cases h) (fun h => by cases h) (fun h => by cases h) hk0 hk1 hkk0 hkk1 (by simp [refKind]) (by decide) (by decide) (mg_neg hn h0)
    (by rw [mg_toI hn.1 hn.2]; show ¬ (0 : Int) + _ > ((arrV _ (ln M a) _).slots.size : Int); rw [arrV_size]; omega)
    (by rw [mg_toI hn.1 hn.2]; show ¬ (0 : Int) + _ > ((arrV _ (ln M b) _).slots.size : Int); rw [arrV_size]; omega)
    (fun vm₁ _ i hi => by
      rw [mg_clp hn] at hi
      have e : (vp_cell (D.2.2.1 8) (ln M a, .inl (fun j => Int32.ofInt (gi M a j)))).slots.getD ((0 : Int32).toNatClampNeg + i) .null = .int (Int32.ofInt (gi M a (0 + i))) := by
        rw [z0]
        show (arrV _ (ln M a) (fun j => .int (Int32.ofInt (gi M a j)))).slots.getD _ _ = _
        rw [Array.getD_eq_getD_getElem?, arrV_read _ _ (by omega)]
        rfl
      refine ⟨?_, ?_⟩
      · rw [e]; rfl
      · rw [e]; exact trivial)
    (g := F0 m pc ls (.int (Int32.ofInt n) :: .int 0 :: .ref b :: .int 0 :: .ref a :: st.map mg_tv)) rfl (by rw [hml]; exact hF.1.1) (rest := st.map mg_tv) rfl (by rw [hb]; exact hdg) hRf (by show 2 * 0 + _ + _ ≤ _; omega)
  rw [e9] at X' step
  obtain ⟨H', hH'⟩ : ∃ H' : Heap, H' = H.setIfInBounds b (vp_cell (D.2.2.1 8) (ln M b, .inl (va_cpy (fun j => Int32.ofInt (gi M a j)) (fun j => Int32.ofInt (gi M b j)) 0 0 n.toNat))) := ⟨_, rfl⟩
  have hl : b < H.size := (Array.getElem?_eq_some_iff.mp (show H[b]? = some _ from f3)).1
  have oq : ∀ q : Nat, q ≠ b → H'[q]? = H[q]? := fun q hq => by rw [hH']; simp [Array.getElem?_setIfInBounds, Ne.symm hq]
  have z : H'.size = H.size := by rw [hH']; simp
  have e1 : H'[b]? = some (vp_cell (D.2.2.1 8) (ln M b, .inl (va_cpy (fun j => Int32.ofInt (gi M a j)) (fun j => Int32.ofInt (gi M b j)) 0 0 n.toNat))) := by rw [hH']; simp [Array.getElem?_setIfInBounds, hl]
  have hHn : mg_H D (cpy M a b n.toNat) s H' := by
    refine mg_H_upd hH f4 rfl (fun _ => rfl) (fun _ => rfl) (fun x hx => ⟨fun k => ?_, fun _ => rfl, fun _ => rfl, fun _ => rfl⟩) (fun x k => ?_) hH.2.2.2.2.2.2.2 z oq ?_
    · show (if x = b ∧ _ then _ else _) = _
      rw [if_neg (fun q => hx q.1)]; rfl
    · show _ ≤ (if x = b ∧ _ then _ else _) ∧ (if x = b ∧ _ then _ else _) < _
      split
      · exact hH.2.2.2.2.2.2.1 a k
      · exact hH.2.2.2.2.2.2.1 x k
    · rw [mg_cF8 (M := cpy M a b n.toNat) hb2]
      show H'[b]? = some (vp_cell _ _)
      rw [e1]
      have e5 : va_cpy (fun j => Int32.ofInt (gi M a j)) (fun j => Int32.ofInt (gi M b j)) 0 0 n.toNat = fun j => Int32.ofInt (gi (cpy M a b n.toNat) b j) := by
        funext j
        show (if 0 ≤ j ∧ j < 0 + n.toNat then Int32.ofInt (gi M a (0 + (j - 0))) else Int32.ofInt (gi M b j)) = Int32.ofInt (if b = b ∧ j < n.toNat then M.2.1 a j else M.2.1 b j)
        by_cases hj : j < n.toNat
        · rw [if_pos ⟨by omega, by omega⟩, if_pos ⟨rfl, hj⟩, Nat.zero_add, Nat.sub_zero]; rfl
        · rw [if_neg (fun z => hj (by omega)), if_neg (fun z => hj z.2)]; rfl
      rw [e5]
      rfl
  have hheap : ((T.setVm vm').setCell b (vp_cell (D.2.2.1 8) (ln M b, .inl (va_cpy (fun j => Int32.ofInt (gi M a j)) (fun j => Int32.ofInt (gi M b j)) 0 0 n.toNat)))).heap = H' := by rw [hH', ← hT]; rfl
  have k2 : ∀ L2 : List Loc, (∀ q ∈ L2, q.base = b) → W p l e R s m args below meth c H' (locs ++ L2) cells slots Q (F0 m (pc + 3) ls (st.map mg_tv)) := fun L2 hL2 => k H' (locs ++ L2) cells slots ls hHn ⟨by rw [z]; exact hS.1, fun q g1 g2 => by rw [oq q (fun e => g2 (by rw [e]; exact f4))]; exact hS.2.1 q g1 g2, fun q hq => by
      rcases List.mem_append.mp hq with h | h
      · exact hS.2.2 q h
      · rw [hL2 q h]
        exact f4⟩ hF hst2 hc hs
  obtain ⟨t, a1, b1⟩ := k2 _ (fun q hq => by obtain ⟨z, -, hz⟩ := List.mem_map.mp hq; rw [← hz]) _ hheap X'
  exact ⟨t, step t a1, b1⟩
end MGN
end
section
/-! the contracts of methods, over the abstract memory -/
theorem mg_memf {α : Type} {L : List α} {f : α → Cond} {ps : List Nat} (h : (L.map fun q => some (f q)) = ps.map (fun i => lw_tbl[i]?)) : ∀ q ∈ L, f q ∈ lw_tbl := by
  intro q hq
  have h1 : some (f q) ∈ ps.map (fun i => lw_tbl[i]?) := by rw [← h]; exact List.mem_map.mpr ⟨q, hq, rfl⟩
  obtain ⟨i, -, hi⟩ := List.mem_map.mp h1
  exact List.mem_of_getElem? hi
theorem mg_memg {α : Type} {L : List α} {f : α → List Cond} {ps : List (List Nat)} (h : (L.map fun q => (f q).map some) = ps.map (fun l => l.map (fun i => lw_tbl[i]?))) : ∀ q ∈ L, ∀ w ∈ f q, w ∈ lw_tbl := by
  intro q hq w hw
  have h1 : (f q).map some ∈ ps.map (fun l => l.map (fun i => lw_tbl[i]?)) := by rw [← h]; exact List.mem_map.mpr ⟨q, hq, rfl⟩
  obtain ⟨l, -, hl⟩ := List.mem_map.mp h1
  have h2 : some w ∈ l.map (fun i => lw_tbl[i]?) := by rw [hl]; exact List.mem_map.mpr ⟨w, hw, rfl⟩
  obtain ⟨i, -, hi⟩ := List.mem_map.mp h2
  exact List.mem_of_getElem? hi
def mg_qok (q : mg_Q) : Prop := mg_cw q ∈ mg_T ∧ (∀ w ∈ mg_cws q, w ∈ mg_T) ∧ plainName q.1.cls = true ∧ (parseMethodDescriptor q.1.desc).map (fun s => s.parameters.length + (bif Nat.beq q.2.2.2.2.2.2.2.2 0 then 0 else 1)) = some q.2.2.2.2.2.2.2.1 ∧ (q.1.cls ≠ "java/lang/invoke/MethodHandle" ∧ q.1.cls ≠ "java/lang/invoke/VarHandle") ∧ q.2.2.1 ≤ 20 ∧
  (q.2.2.2.2.2.2.2.2 = 0 ∨ (q.2.2.2.2.2.2.2.2 < 100 ∧ q.1.cls = mg_R q.2.2.2.2.2.2.2.2) ∨ (100 ≤ q.2.2.2.2.2.2.2.2 ∧ q.1.cls = mg_R (q.2.2.2.2.2.2.2.2 - 100) ∧ q.1.name = "<init>" ∧ q.2.2.2.1 = none))
theorem mg_qok_of {L : List mg_Q} {ps : List Nat} {pl : List (List Nat)} (h1 : (L.map fun q => some (mg_cw q)) = ps.map (fun i => lw_tbl[i]?)) (h2 : (L.map fun q => (mg_cws q).map some) = pl.map (fun l => l.map (fun i => lw_tbl[i]?)))
    (h3 : L.all (fun q => goodWord (mg_cw q) && (mg_cws q).all goodWord && plainName q.1.cls && (decide ((parseMethodDescriptor q.1.desc).map (fun s => s.parameters.length + (bif Nat.beq q.2.2.2.2.2.2.2.2 0 then 0 else 1)) = some q.2.2.2.2.2.2.2.1)) && decide (q.1.cls ≠ "java/lang/invoke/MethodHandle" ∧ q.1.cls ≠ "java/lang/invoke/VarHandle") && decide (q.2.2.1 ≤ 20) && (bif Nat.beq q.2.2.2.2.2.2.2.2 0 then true else bif Nat.blt q.2.2.2.2.2.2.2.2 100 then decide (q.1.cls = mg_R q.2.2.2.2.2.2.2.2) else decide (q.1.cls = mg_R (q.2.2.2.2.2.2.2.2 - 100) ∧ q.1.name = "<init>" ∧ q.2.2.2.1 = none))) = true) : ∀ q ∈ L, mg_qok q := by
  intro q hq
  have g := List.all_eq_true.mp h3 q hq
  simp only [Bool.and_eq_true, decide_eq_true_eq] at g
  obtain ⟨⟨⟨⟨⟨⟨g1, g2⟩, g3⟩, g4⟩, g5⟩, g6⟩, g7⟩ := g
  refine ⟨List.mem_filter.mpr ⟨mg_memf h1 q hq, g1⟩, fun w hw => List.mem_filter.mpr ⟨mg_memg h2 q hq w hw, List.all_eq_true.mp g2 w hw⟩, g3, g4, g5, g6, ?_⟩
  cases hz : Nat.beq q.2.2.2.2.2.2.2.2 0 with
  | true => exact Or.inl (Nat.eq_of_beq_eq_true hz)
  | false =>
    rw [hz] at g7
    refine Or.inr ?_
    cases hy : Nat.blt q.2.2.2.2.2.2.2.2 100 with
    | true =>
      rw [hy] at g7
      exact Or.inl ⟨Nat.le_of_ble_eq_true hy, of_decide_eq_true g7⟩
    | false =>
      rw [hy] at g7
      refine Or.inr ⟨?_, of_decide_eq_true g7⟩
      rcases Nat.lt_or_ge q.2.2.2.2.2.2.2.2 100 with h | h
      · have : Nat.blt q.2.2.2.2.2.2.2.2 100 = true := Nat.ble_eq_true_of_le h
        rw [this] at hy; cases hy
      · exact h
theorem mg_mok : ∀ q ∈ mg_mt, mg_qok q := by
  intro q hq
  simp only [mg_mt, List.mem_append] at hq
  rcases hq with h | h | h | h | h | h | h | h
  · exact mg_qok_of mg_ck0 mg_cl0 mg_cg0 q h
  · exact mg_qok_of mg_ck1 mg_cl1 mg_cg1 q h
  · exact mg_qok_of mg_ck2 mg_cl2 mg_cg2 q h
  · exact mg_qok_of mg_ck3 mg_cl3 mg_cg3 q h
  · exact mg_qok_of mg_ck4 mg_cl4 mg_cg4 q h
  · exact mg_qok_of mg_ck5 mg_cl5 mg_cg5 q h
  · exact mg_qok_of mg_ck6 mg_cl6 mg_cg6 q h
  · exact mg_qok_of mg_ck7 mg_cl7 mg_cg7 q h
/-- what the machine's tables say, beside the good words -/
def mg_W (U : State) : Prop := (∀ x ∈ mg_nwC, va_Nw (.castable x x) U) ∧ (∀ q ∈ mg_nwN, va_Nw (.methodLinkNest q.1 q.2.1 q.2.2 "MergeGrid") U) ∧ (∀ q ∈ mg_str, ∃ sa, vk_R "MergeGrid" q.1 q.2 sa U) ∧ (∀ x ∈ mg_nwD, va_Nw (.declares x) U) ∧
  (∀ a b, 1 ≤ a → a ≤ 6 → 1 ≤ b → b ≤ 6 → a ≠ b → va_Nc (mg_ex a) (mg_ex b) U) ∧ va_AO "MergeGrid$Cell" U
theorem mg_W.warm {s U : State} (hW : s.WarmedH U.vm) (h : mg_W s) : mg_W U :=
  ⟨fun x hx => va_Nw.warmC hW (h.1 x hx), fun q hq => va_Nw.warmM hW (h.2.1 q hq), fun q hq => (h.2.2.1 q hq).imp fun sa hsa => vk_R.warm hW hsa, fun x hx => va_Nw.warmD hW (h.2.2.2.1 x hx), fun a b h1 h2 h3 h4 h5 => va_Nc.moved hW.alike (h.2.2.2.2.1 a b h1 h2 h3 h4 h5), va_AO.moved hW.alike h.2.2.2.2.2⟩
theorem mg_W.same {s U : State} (hv : s.vm = U.vm) (h : mg_W s) : mg_W U :=
  ⟨fun x hx => va_Nw.same rfl hv (h.1 x hx), fun q hq => va_Nw.same rfl hv (h.2.1 q hq), fun q hq => (h.2.2.1 q hq).imp fun sa hsa => vk_R.same hv.symm hsa, fun x hx => va_Nw.same rfl hv (h.2.2.2.1 x hx), fun a b h1 h2 h3 h4 h5 => va_Nc.moved (by rw [hv]; exact Vm.Alike.refl _) (h.2.2.2.2.1 a b h1 h2 h3 h4 h5), va_AO.moved (by rw [hv]; exact Vm.Alike.refl _) h.2.2.2.2.2⟩
def mg_Z (D : mg_D) (U : State) (H : Heap) : Prop := vx_Zq Bundle.tN "UNASSIGNED_STACK" Bundle.steD (mg_A D) U H ∧ vx_Zq Bundle.tN "SUPPRESSED_SENTINEL" Bundle.listD (mg_A D) U H
def mg_Rp (D : mg_D) (M : mg_M) (U : State) : Prop := va_K (D.1, D.2.1) mg_cl (mg_tys D) U ∧ mg_W U ∧ mg_H D M U U.heap ∧ mg_Z D U U.heap
theorem mg_H.moved {D : mg_D} {M : mg_M} {u U : State} {H : Heap} (hvm : u.vm.Alike U.vm) (h : mg_H D M u H) : mg_H D M U H := by
  obtain ⟨g1, g2, g3, g4, g5, g6, g7, g8⟩ := h
  exact ⟨g1, g2, g3, g4, fun a ha => ⟨by obtain ⟨⟨scr, e1, e2, e3⟩, -⟩ := g5 a ha; exact ⟨scr, e1, State.isArrayOf_alike hvm e2, e3⟩, (g5 a ha).2⟩, g6, g7, g8⟩
def mg_Pc (D : mg_D) (as : List mg_V) (M : mg_M) : Array Value → State → Prop := fun v U => v = (as.map mg_tv).toArray ∧ (∀ w ∈ as, mg_ok w) ∧ mg_Rp D M U
def mg_Qc (D : mg_D) (N : mg_O) : Array Value → State → Outcome → State → Prop := fun _ st oc t => (∃ v M', oc = .returned (v.map mg_tv) ∧ N v M' ∧ (∀ w, v = some w → mg_ok w) ∧ mg_H D M' t t.heap) ∧ va_F (mg_A D) st t
def mg_XC (D : mg_D) (X : mg_X) : String → State → State → Prop := fun E st t => (∃ k M', E = mg_ex k ∧ 1 ≤ k ∧ k ≤ 6 ∧ X k M' ∧ mg_H D M' t t.heap) ∧ va_F (mg_A D) st t
def mg_rm (q : mg_Q) : Room := { frames := q.2.2.2.2.2.1, cells := q.2.2.2.2.2.2.1, slots := 160 * q.2.2.2.2.2.2.1, locals := 60 * q.2.2.2.2.2.1 }
/-- the contract of the method numbered y: called with these arguments over this memory it returns so or throws so -/
def mg_Mt (D : mg_D) (l : Launch) (y : Nat) (as : List mg_V) (M : mg_M) (N : mg_O) (X : mg_X) : Prop :=
  ∃ q, mg_mt[y - 1]? = some q ∧ vx_Met l q.1 (mg_cw q :: mg_T) (mg_rm q) (mg_Pc D as M) (mg_Qc D N) (mg_XC D X) q.2.2.2.2.2.2.1 (160 * q.2.2.2.2.2.2.1) (mg_A D)
theorem mg_blind {D : mg_D} {as : List mg_V} {M : mg_M} : FrameBlind (mg_Pc D as M) := by
  intro a U g mk h
  obtain ⟨h1, h2, h3, h4, h5, h6, h7⟩ := h
  exact ⟨h1, h2, va_K.moved (U := U.calling g mk a) (Vm.Alike.refl U.vm) h3, h4.same rfl, mg_H.moved (U := U.calling g mk a) (Vm.Alike.refl U.vm) h5, vx_Zq.moved (U := U.calling g mk a) (Vm.Alike.refl U.vm) h6, vx_Zq.moved (U := U.calling g mk a) (Vm.Alike.refl U.vm) h7⟩
/-- what a walk knows at its entry -/
def mg_cx (p : Program) (l : Launch) (R : Room) (s : State) (m : MethodId) (args : Array Value) (meth : Method) (c : Code) (D : mg_D) (nL AC AS : Nat) (cc : ByteArray) (own : String) (dp : Nat) : Prop :=
  p.tables.exec = Jvm.exec ∧ c.code = cc ∧ c.maxLocals = nL ∧ (∀ w ∈ mg_T, w.before args s = true) ∧ s.vm.findClass own = some m.cls ∧ va_K (D.1, D.2.1) mg_cl (mg_tys D) s ∧ mg_W s ∧ mg_Z D s s.heap ∧ AC ≤ R.cells ∧ AS ≤ R.slots ∧ meth.locks = false ∧ l.stackTraces = false ∧ dp ≤ R.frames ∧ 60 * dp ≤ R.locals ∧ D.2.2.2 ≤ s.heap.size
section MGC
variable {p : Program} {l : Launch} {e : Env} {R : Room} {s : State} {m : MethodId} {args : Array Value} {below : List Frame} {meth : Method} {c : Code} {Q : State → Prop} {D : mg_D} {nL AC AS : Nat} {cc : ByteArray} {own : String} {dp : Nat} {pc : Nat} {L : mg_L} {st : List mg_V} {M : mg_M} {B : Nat}
theorem mg_rp {H : Heap} {locs : List Loc} (C : mg_cx p l R s m args meth c D nL AC AS cc own dp) (hH : mg_H D M s H) (hS : va_S (mg_A D) s.heap H locs) {U : State} (hU : U.heap = H) (hW : s.WarmedH U.vm) : mg_Rp D M U := by
  obtain ⟨-, -, -, -, -, hK, hWw, hZ, -⟩ := C
  refine ⟨va_K.moved hW.alike hK, hWw.warm hW, by rw [hU]; exact hH.moved hW.alike, ?_, ?_⟩
  · rw [hU]; exact (vx_Zq.moved hW.alike hZ.1).kept hS.2.1
  · rw [hU]; exact (vx_Zq.moved hW.alike hZ.2).kept hS.2.1
/-- behind a call that may throw -/
theorem mg_after {N : mg_O} {X : mg_X} {a0 : Nat} {a : Array Value} {H : Heap} {locs : List Loc} {cells slots : Nat} {ls : Array Slot} {st0 : List Value} (C : mg_cx p l R s m args meth c D nL AC AS cc own dp) (hH : mg_H D M s H) (hS : va_S (mg_A D) s.heap H locs)
    (hF : mg_Fr ls nL L) (hst : ∀ v ∈ st, mg_ok v) (ha : a0 ≤ B) (hc : cells + B ≤ AC) (hs : slots + 160 * B ≤ AS)
    (hr : vx_Run p l e R s m args below meth c H locs cells slots a0 (160 * a0) (F0 m pc ls st0) (st.map mg_tv) (mg_Qc D N a) (mg_XC D X) (mg_A D))
    (k : ∀ v M', N v M' → mg_G p l e R s m args below meth c Q D nL AC AS (pc + 3) L (v.toList ++ st) M' (B - a0))
    (kx : ∀ x M', 1 ≤ x → x ≤ 6 → X x M' → ∀ (H1 : Heap) (locs1 : List Loc) (q : Nat) (ce : Cell), mg_H D M' s H1 → va_S (mg_A D) s.heap H1 locs1 → H1[q]? = some ce → ce.vm = .none → s.vm.findClass (mg_ex x) = some ce.cls → vx_W p l e R s m args below meth c H1 locs1 (cells + a0) (slots + 160 * a0) Q (F0 m pc ls (st.map mg_tv)) q) :
    W p l e R s m args below meth c H locs cells slots Q (F0 m pc ls st0) := by
  intro T hT Y
  have hfr : ∀ q, mg_A D q → mg_A D q := fun q h => h
  rcases hr T hT Y with ⟨v, st₀, t, T', L1, h0, X', hL, e1, e2, ⟨⟨v', M', hv, hN, hok, hRp⟩, hFr⟩, stp⟩ | ⟨q, st₀, t, T', L1, E, ce, h0, X', hL, e1, e2, ⟨⟨x, M', hE, x1, x6, hX, hRp⟩, hFr⟩, hce, hcv, hcl, stp⟩
  · have hal : t.vm.Alike s.vm := by rw [← e2]; exact X'.warmed.alike.symm
    obtain ⟨k1, k2, k3⟩ := vx_keep (A1 := mg_A D) h0 e1 hS (fun q _ h => h) hfr hL hFr
    cases hv
    obtain ⟨t2, a1, b1⟩ := k v' M' hN T'.heap (locs ++ L1) (cells + a0) (slots + 160 * a0) ls (by rw [e1]; exact hRp.moved hal) k3 hF (fun w hw => by
      rcases List.mem_append.mp hw with h | h
      · cases v' with
        | none => cases h
        | some z => rw [Option.toList_some, List.mem_singleton] at h; subst h; exact hok _ rfl
      · exact hst w h) (by omega) (by omega) T' rfl X'
    refine ⟨t2, stp t2 ?_, b1⟩
    have e9 : (v'.map mg_tv).toList ++ st.map mg_tv = (v'.toList ++ st).map mg_tv := by cases v' <;> simp
    rw [e9]
    exact a1
  · have hal : t.vm.Alike s.vm := by rw [← e2]; exact X'.warmed.alike.symm
    obtain ⟨k1, k2, k3⟩ := vx_keep (A1 := mg_A D) h0 e1 hS (fun q _ h => h) hfr hL hFr
    subst hE
    obtain ⟨t2, a1, b1⟩ := kx x M' x1 x6 hX T'.heap (locs ++ L1) q ce (by rw [e1]; exact hRp.moved hal) k3 (by rw [e1]; exact hce) hcv hcl T' rfl X'
    exact ⟨t2, stp.trans a1, b1⟩
end MGC
end
section
/-! calls, returns, throws -/
theorem mg_popS {n : Nat} {acc st : List mg_V} {k : List mg_V → List mg_V → Prop} (h : mg_pop n acc st k) : ∃ xs rest, xs.length = n ∧ st = xs ++ rest ∧ k (xs.reverse ++ acc) rest := by
  induction n generalizing acc st with
  | zero => exact ⟨[], st, rfl, rfl, h⟩
  | succ n ih =>
    cases st with
    | nil => exact h.elim
    | cons v st =>
      obtain ⟨xs, rest, h1, h2, h3⟩ := ih h
      exact ⟨v :: xs, rest, by rw [List.length_cons, h1], by rw [h2]; rfl, by rw [List.reverse_cons, List.append_assoc]; exact h3⟩
theorem mg_good : ∀ w ∈ mg_T, ∀ {args a' : Array Value} {s U : State}, s.WarmedH U.vm → w.before args s = true → w.before a' U = true := by
  intro w hw args a' s U hW h
  exact word_at hW (good_of_word (List.mem_filter.mp hw).2) h
section MGC2
variable {p : Program} {l : Launch} {e : Env} {R : Room} {s : State} {m : MethodId} {args : Array Value} {below : List Frame} {meth : Method} {c : Code} {Q : State → Prop} {D : mg_D} {nL AC AS : Nat} {cc : ByteArray} {own : String} {dp : Nat} {pc : Nat} {L : mg_L} {st : List mg_V} {M : mg_M} {B : Nat}
theorem mg_callB (C : mg_cx p l R s m args meth c D nL AC AS cc own dp) {i : Nat} {q : mg_Q} (hq : mg_qok q) (hlink : (Cond.methodLink own i q.1).before args s = true) (hh : q.2.2.2.2.1 = []) (hdep : q.2.2.2.2.2.1 < dp) {n : Nat} (hn : ∀ sig, parseMethodDescriptor q.1.desc = some sig → n = sig.parameters.length) :
    CallB R s args own i q.1 q.2.1 q.2.2.1 q.2.2.2.1 (mg_cw q :: mg_T) (mg_rm q) q.2.2.2.2.2.2.1 (160 * q.2.2.2.2.2.2.1) n := by
  obtain ⟨-, -, -, hts, -, -, -, -, -, -, -, -, hf, hl, -⟩ := C
  obtain ⟨q1, q2, q3, q4, q5, q6, q7⟩ := hq
  have hcw : mg_cw q = .code q.1 q.2.1 q.2.2.1 q.2.2.2.1 := by unfold mg_cw; rw [hh]
  refine ⟨rfl, rfl, by show q.2.2.2.2.2.1 + 1 ≤ _; omega, by show 8 + (q.2.2.1 + 11) + 60 * q.2.2.2.2.2.1 ≤ _; omega, fun w hw a' U hW => ?_, by rw [hcw]; exact List.mem_cons_self, by rw [← hcw]; exact hts _ q1, hts _ (q2 _ List.mem_cons_self), q5, hn, hlink⟩
  rcases List.mem_cons.mp hw with rfl | hw
  · exact mg_good _ q1 hW (hts _ q1)
  · exact mg_good _ hw hW (hts _ hw)
theorem gs_callV (C : mg_cx p l R s m args meth c D nL AC AS cc own dp) {i y : Nat} {q : mg_Q} (hq : mg_mt[y - 1]? = some q) (hlink : Cond.methodLink own i q.1 ∈ mg_T) (hh : q.2.2.2.2.1 = []) (hd1 : 1 ≤ q.2.2.2.2.2.2.2.2) (hd7 : q.2.2.2.2.2.2.2.2 ≤ 7) (hdep : q.2.2.2.2.2.1 < dp)
    {r : Nat} {As : List mg_V} (hna : As.length + 1 = q.2.2.2.2.2.2.2.1) (hr : kd M r = q.2.2.2.2.2.2.2.2) (hB : q.2.2.2.2.2.2.1 ≤ B) (hlen : st.length ≤ 4) {N : mg_O} {X : mg_X} (hM : mg_Mt D l y (.inr (.inl r) :: As) M N X) (hdg : decode cc pc = .ok (.invokevirtual i, 3))
    (k : ∀ v M', N v M' → mg_G p l e R s m args below meth c Q D nL AC AS (pc + 3) L (v.toList ++ st) M' (B - q.2.2.2.2.2.2.1))
    (kx : ∀ x M', 1 ≤ x → x ≤ 6 → X x M' → ∀ (H1 : Heap) (locs1 : List Loc) (cells slots : Nat) (ls : Array Slot) (q0 : Nat) (ce : Cell), mg_H D M' s H1 → va_S (mg_A D) s.heap H1 locs1 → mg_Fr ls nL L → (∀ v ∈ st, mg_ok v) → cells + (B - q.2.2.2.2.2.2.1) ≤ AC → slots + 160 * (B - q.2.2.2.2.2.2.1) ≤ AS → H1[q0]? = some ce → ce.vm = .none → s.vm.findClass (mg_ex x) = some ce.cls → vx_W p l e R s m args below meth c H1 locs1 cells slots Q (F0 m pc ls (st.map mg_tv)) q0) :
    mg_G p l e R s m args below meth c Q D nL AC AS pc L (As.reverse ++ .inr (.inl r) :: st) M B := by
  intro H locs cells slots ls hH hS hF hst hc hs
  have hqok := mg_mok q (List.mem_of_getElem? hq)
  obtain ⟨q', hq', hMet⟩ := hM
  cases Option.some.inj (hq'.symm.trans hq)
  have C9 := C
  obtain ⟨hx, hb, hml, hts, hown, hK, hW, hZ, hAC, hAS, -⟩ := C9
  have hstA : ∀ v ∈ (Sum.inr (Sum.inl r) : mg_V) :: As, mg_ok v := fun v hv => hst v (by
    rcases List.mem_cons.mp hv with rfl | hv
    · exact List.mem_append_right _ List.mem_cons_self
    · exact List.mem_append_left _ (List.mem_reverse.mpr hv))
  have hst2 : ∀ v ∈ st, mg_ok v := fun v hv => hst v (List.mem_append_right _ (List.mem_cons_of_mem _ hv))
  have hsum := mg_sum st
  have hrec : q.1.cls = mg_R q.2.2.2.2.2.2.2.2 := by
    rcases hqok.2.2.2.2.2.2 with h | h | h
    · omega
    · exact h.2
    · omega
  have hp4 : ∀ sig, parseMethodDescriptor q.1.desc = some sig → As.length = sig.parameters.length := by
    intro sig hsig
    have := hqok.2.2.2.1
    rw [hsig] at this
    have h0 : Nat.beq q.2.2.2.2.2.2.2.2 0 = false := by
      cases hz : Nat.beq q.2.2.2.2.2.2.2.2 0 with
      | false => rfl
      | true => have := Nat.eq_of_beq_eq_true hz; omega
    rw [h0] at this
    have h1 := Option.some.inj this
    dsimp only [cond] at h1
    omega
  have hw2 : ∀ w ∈ [Cond.instanceMethod q.1, Cond.selects q.1.cls q.1 q.1], w ∈ mg_T := by
    have h2 := hqok.2.1
    have h0 : Nat.beq q.2.2.2.2.2.2.2.2 0 = false := by
      cases hz : Nat.beq q.2.2.2.2.2.2.2.2 0 with
      | false => rfl
      | true => have := Nat.eq_of_beq_eq_true hz; omega
    have h3 : Nat.blt q.2.2.2.2.2.2.2.2 100 = true := Nat.ble_eq_true_of_le (by omega)
    unfold mg_cws at h2
    rw [h0, h3] at h2
    intro w hw
    exact h2 w (List.mem_cons_of_mem _ hw)
  obtain ⟨f1, f2⟩ := hH.2.2.2.1 r (by omega) (by omega)
  have f3 : mg_cF D M r = .inr (q.2.2.2.2.2.2.2.2 - 1, mg_fs M r q.2.2.2.2.2.2.2.2) := by unfold mg_cF; rw [hr, if_pos hd7]
  rw [f3] at f1
  have hrun := vx_runV (meth := meth) (e := e) (below := below) (H := H) (locs := locs) (cells := cells) (slots := slots) (R := R) (C := q.1.cls) (b := r) (As := As.map mg_tv) (rest := st.map mg_tv) (g := F0 m pc ls (((As.reverse ++ .inr (.inl r) :: st)).map mg_tv)) ⟨hx, hb, hml, hown, hts⟩ hMet
    ⟨mg_callB C hqok (hts _ hlink) hh hdep hp4, hts _ (hw2 _ List.mem_cons_self), hts _ (hw2 _ (List.mem_cons_of_mem _ List.mem_cons_self))⟩
    ⟨mg_blind, by rw [hrec]; exact va_recv (q0 := 0) hK (mg_P1 f1) (mg_clk hd1 hd7) rfl, fun U hU hWU => ⟨rfl, hstA, mg_rp C hH hS hU hWU⟩⟩
    rfl (by rw [List.length_map]) hF.1.1 (by simp [List.map_append, List.map_reverse, mg_tv]) (lv_room (by omega)) hdg ⟨by omega, by omega⟩
  exact mg_after C hH hS hF hst2 hB hc hs hrun k (fun x M' x1 x6 hX H1 locs1 q0 ce g1 g2 g3 g4 g5 => kx x M' x1 x6 hX H1 locs1 _ _ ls q0 ce g1 g2 hF hst2 (by omega) (by omega) g3 g4 g5)
theorem gs_callI (C : mg_cx p l R s m args meth c D nL AC AS cc own dp) {i y : Nat} {q : mg_Q} (hq : mg_mt[y - 1]? = some q) (hlink : Cond.methodLink own i q.1 ∈ mg_T ∨ ((own, i, q.1) ∈ mg_nwN)) (hh : q.2.2.2.2.1 = []) (hd1 : 100 ≤ q.2.2.2.2.2.2.2.2) (hdep : q.2.2.2.2.2.1 < dp)
    {r : Nat} {As : List mg_V} (hna : As.length + 1 = q.2.2.2.2.2.2.2.1) (hB : q.2.2.2.2.2.2.1 ≤ B) (hlen : st.length ≤ 4) {N : mg_O} {X : mg_X} (hM : mg_Mt D l y (.inr (.inl r) :: As) M N X) (hdg : decode cc pc = .ok (.invokespecial i, 3))
    (k : ∀ v M', N v M' → mg_G p l e R s m args below meth c Q D nL AC AS (pc + 3) L (v.toList ++ st) M' (B - q.2.2.2.2.2.2.1))
    (kx : ∀ x M', 1 ≤ x → x ≤ 6 → X x M' → ∀ (H1 : Heap) (locs1 : List Loc) (cells slots : Nat) (ls : Array Slot) (q0 : Nat) (ce : Cell), mg_H D M' s H1 → va_S (mg_A D) s.heap H1 locs1 → mg_Fr ls nL L → (∀ v ∈ st, mg_ok v) → cells + (B - q.2.2.2.2.2.2.1) ≤ AC → slots + 160 * (B - q.2.2.2.2.2.2.1) ≤ AS → H1[q0]? = some ce → ce.vm = .none → s.vm.findClass (mg_ex x) = some ce.cls → vx_W p l e R s m args below meth c H1 locs1 cells slots Q (F0 m pc ls (st.map mg_tv)) q0) :
    mg_G p l e R s m args below meth c Q D nL AC AS pc L (As.reverse ++ .inr (.inl r) :: st) M B := by
  intro H locs cells slots ls hH hS hF hst hc hs
  have hqok := mg_mok q (List.mem_of_getElem? hq)
  obtain ⟨q', hq', hMet⟩ := hM
  cases Option.some.inj (hq'.symm.trans hq)
  have C9 := C
  obtain ⟨hx, hb, hml, hts, hown, hK, hW, hZ, hAC, hAS, -, -, hRf, hRl, -⟩ := C9
  have hstA : ∀ v ∈ (Sum.inr (Sum.inl r) : mg_V) :: As, mg_ok v := fun v hv => hst v (by
    rcases List.mem_cons.mp hv with rfl | hv
    · exact List.mem_append_right _ List.mem_cons_self
    · exact List.mem_append_left _ (List.mem_reverse.mpr hv))
  have hst2 : ∀ v ∈ st, mg_ok v := fun v hv => hst v (List.mem_append_right _ (List.mem_cons_of_mem _ hv))
  have hsum := mg_sum st
  have hrec : q.1.name = "<init>" ∧ q.2.2.2.1 = none := by
    rcases hqok.2.2.2.2.2.2 with h | h | h
    · omega
    · omega
    · exact h.2.2
  have h0 : Nat.beq q.2.2.2.2.2.2.2.2 0 = false := by
    cases hz : Nat.beq q.2.2.2.2.2.2.2.2 0 with
    | false => rfl
    | true => have := Nat.eq_of_beq_eq_true hz; omega
  have hp4 : ∀ sig, parseMethodDescriptor q.1.desc = some sig → As.length = sig.parameters.length := by
    intro sig hsig
    have := hqok.2.2.2.1
    rw [hsig, h0] at this
    have h1 := Option.some.inj this
    dsimp only [cond] at h1
    omega
  have hw2 : Cond.instanceMethod q.1 ∈ mg_T := by
    have h2 := hqok.2.1
    have h3 : Nat.blt q.2.2.2.2.2.2.2.2 100 = false := by
      cases hz : Nat.blt q.2.2.2.2.2.2.2.2 100 with
      | false => rfl
      | true => have := Nat.le_of_ble_eq_true hz; omega
    unfold mg_cws at h2
    rw [h0, h3] at h2
    exact h2 _ (List.mem_cons_of_mem _ List.mem_cons_self)
  have hpre : PreS s H (mg_Pc D (.inr (.inl r) :: As) M) (.ref r :: As.map mg_tv) := ⟨mg_blind, fun U hU hWU => ⟨rfl, hstA, mg_rp C hH hS hU hWU⟩⟩
  have hrun : vx_Run p l e R s m args below meth c H locs cells slots q.2.2.2.2.2.2.1 (160 * q.2.2.2.2.2.2.1) (F0 m pc ls (((As.reverse ++ .inr (.inl r) :: st)).map mg_tv)) (st.map mg_tv) (mg_Qc D N (Value.ref r :: As.map mg_tv).toArray) (mg_XC D X) (mg_A D) := by
    rcases hlink with hlink | hlink
    · have cb := mg_callB C hqok (hts _ hlink) hh hdep hp4
      rw [hrec.2] at cb
      exact vx_runI ⟨hx, hb, hml, hown, hts⟩ hMet ⟨cb, hrec.1, hts _ hw2⟩ hpre rfl (by rw [List.length_map]) hF.1.1 (by simp [List.map_append, List.map_reverse, mg_tv]) (lv_room (by omega)) hdg ⟨by omega, by omega⟩
    · have hcw : mg_cw q = .code q.1 q.2.1 q.2.2.1 none := by unfold mg_cw; rw [hh, hrec.2]
      obtain ⟨q1, q2, q3, q4, q5, q6, q7⟩ := hqok
      refine vx_runIN (host := "MergeGrid") (bytes := q.2.1) (maxL := q.2.2.1) ⟨hx, hb, hml, hown, hts⟩ hMet ⟨⟨⟨rfl, rfl, by show q.2.2.2.2.2.1 + 1 ≤ _; omega, by show 8 + (q.2.2.1 + 11) + 60 * q.2.2.2.2.2.1 ≤ _; omega, fun w hw a' U hW => ?_, by rw [hcw]; exact List.mem_cons_self⟩, by rw [← hcw]; exact hts _ q1, hts _ (q2 _ List.mem_cons_self), q5, hp4, va_Nw.use rfl (hW.2.1 _ hlink)⟩, hrec.1, hts _ hw2⟩ hpre rfl (by rw [List.length_map]) hF.1.1 (by simp [List.map_append, List.map_reverse, mg_tv]) (lv_room (by omega)) hdg ⟨by omega, by omega⟩
      rcases List.mem_cons.mp hw with rfl | hw
      · exact mg_good _ q1 hW (hts _ q1)
      · exact mg_good _ hw hW (hts _ hw)
  exact mg_after C hH hS hF hst2 hB hc hs hrun k (fun x M' x1 x6 hX H1 locs1 q0 ce g1 g2 g3 g4 g5 => kx x M' x1 x6 hX H1 locs1 _ _ ls q0 ce g1 g2 hF hst2 (by omega) (by omega) g3 g4 g5)
theorem gs_callS (C : mg_cx p l R s m args meth c D nL AC AS cc own dp) {i y : Nat} {q : mg_Q} (hq : mg_mt[y - 1]? = some q) (hlink : Cond.methodLink own i q.1 ∈ mg_T) (hd1 : q.2.2.2.2.2.2.2.2 = 0) (hdep : q.2.2.2.2.2.1 < dp)
    {As : List mg_V} (hna : As.length = q.2.2.2.2.2.2.2.1) (hB : q.2.2.2.2.2.2.1 ≤ B) (hlen : st.length ≤ 4) {N : mg_O} {X : mg_X} (hM : mg_Mt D l y As M N X) (hdg : decode cc pc = .ok (.invokestatic i, 3))
    (k : ∀ v M', N v M' → mg_G p l e R s m args below meth c Q D nL AC AS (pc + 3) L (v.toList ++ st) M' (B - q.2.2.2.2.2.2.1))
    (kx : ∀ x M', 1 ≤ x → x ≤ 6 → X x M' → ∀ (H1 : Heap) (locs1 : List Loc) (cells slots : Nat) (ls : Array Slot) (q0 : Nat) (ce : Cell), mg_H D M' s H1 → va_S (mg_A D) s.heap H1 locs1 → mg_Fr ls nL L → (∀ v ∈ st, mg_ok v) → cells + (B - q.2.2.2.2.2.2.1) ≤ AC → slots + 160 * (B - q.2.2.2.2.2.2.1) ≤ AS → H1[q0]? = some ce → ce.vm = .none → s.vm.findClass (mg_ex x) = some ce.cls → vx_W p l e R s m args below meth c H1 locs1 cells slots Q (F0 m pc ls (st.map mg_tv)) q0) :
    mg_G p l e R s m args below meth c Q D nL AC AS pc L (As.reverse ++ st) M B := by
  intro H locs cells slots ls hH hS hF hst hc hs
  have hqok := mg_mok q (List.mem_of_getElem? hq)
  obtain ⟨q', hq', hMet⟩ := hM
  cases Option.some.inj (hq'.symm.trans hq)
  have C9 := C
  obtain ⟨hx, hb, hml, hts, hown, hK, hW, hZ, hAC, hAS, -, -, hRf, hRl, -⟩ := C9
  have hstA : ∀ v ∈ As, mg_ok v := fun v hv => hst v (List.mem_append_left _ (List.mem_reverse.mpr hv))
  have hst2 : ∀ v ∈ st, mg_ok v := fun v hv => hst v (List.mem_append_right _ hv)
  have hsum := mg_sum st
  have hp4 : ∀ sig, parseMethodDescriptor q.1.desc = some sig → As.length = sig.parameters.length := by
    intro sig hsig
    have := hqok.2.2.2.1
    rw [hsig, hd1] at this
    have h1 := Option.some.inj this
    have h1 : sig.parameters.length + 0 = q.2.2.2.2.2.2.2.1 := h1
    omega
  have hw2 : Cond.static q.1 ∈ mg_T := by
    have h2 := hqok.2.1
    unfold mg_cws at h2
    rw [hd1] at h2
    exact h2 _ (List.mem_cons_of_mem _ List.mem_cons_self)
  have hpre : PreS s H (mg_Pc D As M) (As.map mg_tv) := ⟨mg_blind, fun U hU hWU => ⟨rfl, hstA, mg_rp C hH hS hU hWU⟩⟩
  have hrun : vx_Run p l e R s m args below meth c H locs cells slots q.2.2.2.2.2.2.1 (160 * q.2.2.2.2.2.2.1) (F0 m pc ls ((As.reverse ++ st).map mg_tv)) (st.map mg_tv) (mg_Qc D N (As.map mg_tv).toArray) (mg_XC D X) (mg_A D) := by
    cases hh : q.2.2.2.2.1 with
    | nil =>
      exact vx_runS ⟨hx, hb, hml, hown, hts⟩ hMet ⟨mg_callB C hqok (hts _ hlink) hh hdep hp4, hts _ hw2⟩ hpre rfl (by rw [List.length_map]) hF.1.1 (by simp [List.map_append, List.map_reverse]) (lv_room (by omega)) hdg ⟨by omega, by omega⟩
    | cons h t =>
      have hcw : mg_cw q = .codeWith q.1 q.2.1 q.2.2.1 q.2.2.2.1 (h :: t) := by unfold mg_cw; rw [hh]
      obtain ⟨q1, q2, q3, q4, q5, q6, q7⟩ := hqok
      refine vx_runSX (hh := h :: t) (bytes := q.2.1) (maxL := q.2.2.1) (ret := q.2.2.2.1) ⟨hx, hb, hml, hown, hts⟩ hMet ⟨⟨rfl, rfl, by show q.2.2.2.2.2.1 + 1 ≤ _; omega, by show 8 + (q.2.2.1 + 11) + 60 * q.2.2.2.2.2.1 ≤ _; omega, fun w hw a' U hW => ?_, by rw [hcw]; exact List.mem_cons_self⟩, by rw [← hcw]; exact hts _ q1, hts _ (q2 _ List.mem_cons_self), q5, hp4, hts _ hlink, hts _ hw2⟩ hpre rfl (by rw [List.length_map]) hF.1.1 (by simp [List.map_append, List.map_reverse]) (lv_room (by omega)) hdg ⟨by omega, by omega⟩
      rcases List.mem_cons.mp hw with rfl | hw
      · exact mg_good _ q1 hW (hts _ q1)
      · exact mg_good _ hw hW (hts _ hw)
  exact mg_after C hH hS hF hst2 hB hc hs hrun k (fun x M' x1 x6 hX H1 locs1 q0 ce g1 g2 g3 g4 g5 => kx x M' x1 x6 hX H1 locs1 _ _ ls q0 ce g1 g2 hF hst2 (by omega) (by omega) g3 g4 g5)
theorem gs_max (C : mg_cx p l R s m args meth c D nL AC AS cc own dp) (hdp : 2 ≤ dp) {i : Nat} (h1 : Cond.methodLink own i Lib.Math.max.name ∈ mg_T) (h2 : Cond.static Lib.Math.max.name ∈ mg_T) (h3 : Cond.initialized "java/lang/Math" ∈ mg_T) (h4 : Cond.code Lib.Math.max.name Lib.Math.max.code 2 (some .int) ∈ mg_T) {x y : Int} (hlen : st.length ≤ 7) (hdg : decode cc pc = .ok (.invokestatic i, 3))
    (k : mg_G p l e R s m args below meth c Q D nL AC AS (pc + 3) L (.inl (max x y) :: st) M B) : mg_G p l e R s m args below meth c Q D nL AC AS pc L (.inl y :: .inl x :: st) M B := by
  intro H locs cells slots ls hH hS hF hst hc hs
  obtain ⟨hx, hb, hml, hts, hown, hK, hW, hZ, hAC, hAS, -, -, hRf, hRl, -⟩ := C
  refine mg_ok2 hst fun hy hst => mg_ok2 hst fun hx1 hst => ?_
  have hy : -2147483648 ≤ y ∧ y < 2147483648 := hy
  have hx1 : -2147483648 ≤ x ∧ x < 2147483648 := hx1
  have hsum := mg_sum st
  have k2 := k H locs cells slots ls hH hS hF (mg_okc (by show _ ∧ _; omega) hst) hc hs
  refine va_mmax hx hb (hml.trans hF.1.1.symm) hown (hts _ h1) (hts _ h2) (hts _ h3) (hts _ h4) (by omega) (by omega) (by omega) (by omega) hdg ?_
  have e9 : (if Int32.ofInt x < Int32.ofInt y then Int32.ofInt y else Int32.ofInt x) = Int32.ofInt (max x y) := by
    by_cases h : x < y
    · rw [if_pos ((mg_lt hx1 hy).mpr h), Int.max_eq_right (by omega)]
    · rw [if_neg (fun q => h ((mg_lt hx1 hy).mp q)), Int.max_eq_left (by omega)]
  rw [e9]
  exact k2
theorem gs_min (C : mg_cx p l R s m args meth c D nL AC AS cc own dp) (hdp : 2 ≤ dp) {i : Nat} (h1 : Cond.methodLink own i Lib.Math.min.name ∈ mg_T) (h2 : Cond.static Lib.Math.min.name ∈ mg_T) (h3 : Cond.initialized "java/lang/Math" ∈ mg_T) (h4 : Cond.code Lib.Math.min.name Lib.Math.min.code 2 (some .int) ∈ mg_T) {x y : Int} (hlen : st.length ≤ 7) (hdg : decode cc pc = .ok (.invokestatic i, 3))
    (k : mg_G p l e R s m args below meth c Q D nL AC AS (pc + 3) L (.inl (min x y) :: st) M B) : mg_G p l e R s m args below meth c Q D nL AC AS pc L (.inl y :: .inl x :: st) M B := by
  intro H locs cells slots ls hH hS hF hst hc hs
  obtain ⟨hx, hb, hml, hts, hown, hK, hW, hZ, hAC, hAS, -, -, hRf, hRl, -⟩ := C
  refine mg_ok2 hst fun hy hst => mg_ok2 hst fun hx1 hst => ?_
  have hy : -2147483648 ≤ y ∧ y < 2147483648 := hy
  have hx1 : -2147483648 ≤ x ∧ x < 2147483648 := hx1
  have hsum := mg_sum st
  have k2 := k H locs cells slots ls hH hS hF (mg_okc (by show _ ∧ _; omega) hst) hc hs
  refine va_mmin hx hb (hml.trans hF.1.1.symm) hown (hts _ h1) (hts _ h2) (hts _ h3) (hts _ h4) (by omega) (by omega) (by omega) (by omega) hdg ?_
  have e9 : (if Int32.ofInt y < Int32.ofInt x then Int32.ofInt y else Int32.ofInt x) = Int32.ofInt (min x y) := by
    by_cases h : y < x
    · rw [if_pos ((mg_lt hy hx1).mpr h), Int.min_eq_right (by omega)]
    · rw [if_neg (fun q => h ((mg_lt hy hx1).mp q)), Int.min_eq_left (by omega)]
  rw [e9]
  exact k2
theorem gs_oinit (C : mg_cx p l R s m args meth c D nL AC AS cc own dp) (hdp : 2 ≤ dp) {i : Nat} (h1 : Cond.methodLink own i Lib.objectInit ∈ mg_T) (h2 : Cond.instanceMethod Lib.objectInit ∈ mg_T) (h3 : Cond.code Lib.objectInit ⟨#[0xb1]⟩ 1 none ∈ mg_T) {r : Nat} (hlen : st.length ≤ 7) (hdg : decode cc pc = .ok (.invokespecial i, 3))
    (k : mg_G p l e R s m args below meth c Q D nL AC AS (pc + 3) L st M B) : mg_G p l e R s m args below meth c Q D nL AC AS pc L (.inr (.inl r) :: st) M B := by
  intro H locs cells slots ls hH hS hF hst hc hs
  obtain ⟨hx, hb, hml, hts, hown, hK, hW, hZ, hAC, hAS, -, -, hRf, hRl, -⟩ := C
  have hsum := mg_sum st
  have k2 := k H locs cells slots ls hH hS hF (fun w hw => hst w (List.mem_cons_of_mem _ hw)) hc hs
  refine W.objInit hx hb hown (hts _ h1) (hts _ h2) (hts _ h3) rfl (by rw [hml]; exact hF.1.1) rfl hdg (by omega) (by show 2 * 0 + _ + 12 ≤ _; omega) ?_
  exact W.eq (g2 := F0 m (pc + 3) ls (st.map mg_tv)) rfl k2
end MGC2
end
section
/-! returns, handlers, throws of a method -/
/-- what an instruction that returns asks -/
def mg_rt (rk : Nat) (i : Instr) (st : List mg_V) (Q : Option mg_V → Prop) : Prop := match i with
  | .ireturn => match st with
    | [.inl x] => (rk = 1 ∨ rk = 2 ∧ (x = 0 ∨ x = 1)) ∧ Q (some (.inl x))
    | _ => False
  | .areturn => match st with
    | [.inr (.inl x)] => rk = 3 ∧ Q (some (.inr (.inl x)))
    | _ => False
  | .lreturn => match st with
    | [.inr (.inr (.inl x))] => rk = 4 ∧ Q (some (.inr (.inr (.inl x))))
    | _ => False
  | .freturn => match st with
    | [.inr (.inr (.inr (.inr x)))] => rk = 5 ∧ Q (some (.inr (.inr (.inr (.inr x)))))
    | _ => False
  | .dreturn => match st with
    | [.inr (.inr (.inr (.inl x)))] => rk = 6 ∧ Q (some (.inr (.inr (.inr (.inl x)))))
    | _ => False
  | .return_ => match st with
    | [] => rk = 0 ∧ Q none
    | _ => False
  | _ => False
def mg_rk (r : Option FieldType) : Nat := match r with
  | none => 0
  | some .int => 1
  | some .boolean => 2
  | some (.object _) => 3
  | some .long => 4
  | some .float => 5
  | some .double => 6
  | _ => 7
section MGE
variable {p : Program} {l : Launch} {e : Env} {R : Room} {s : State} {m : MethodId} {args : Array Value} {below : List Frame} {meth : Method} {c : Code} {D : mg_D} {nL AC AS : Nat} {cc : ByteArray} {own : String} {dp : Nat} {pc : Nat} {L : mg_L} {st : List mg_V} {M : mg_M} {B : Nat} {N0 : mg_O} {X0 : mg_X}
theorem gs_ret (C : mg_cx p l R s m args meth c D nL AC AS cc own dp) {rk : Nat} (hrk : mg_rk meth.sig.returnType = rk) {i : Instr} (hdg : decode cc pc = .ok (i, 1)) (h : mg_rt rk i st (fun v => N0 v M)) :
    mg_G p l e R s m args below meth c (vx_MQ below (mg_Qc D N0) (mg_XC D X0) args s AC AS (mg_A D)) D nL AC AS pc L st M B := by
  intro H locs cells slots ls hH hS hF hst hc hs
  have C9 := C
  obtain ⟨hx, hb, hml, hts, hown, hK, hW, hZ, hAC, hAS, hlk, -⟩ := C9
  refine vx_ret (W.widen (show cells ≤ AC by omega) (show slots ≤ AS by omega) ?_)
  have hq : ∀ v, N0 v M → (∀ w, v = some w → mg_ok w) → ∀ t : State, t.heap = H → s.WarmedH t.vm → mg_Qc D N0 args s (.returned (v.map mg_tv)) t := fun v hv hok t ht hWt => ⟨⟨v, M, rfl, hv, hok, by rw [ht]; exact hH.moved hWt.alike⟩, hS.F ht⟩
  cases hret : meth.sig.returnType with
  | none =>
    rw [hret] at hrk
    have hrk : rk = 0 := hrk.symm
    subst hrk
    cases i <;> first | exact h.elim | skip
    all_goals (unfold mg_rt at h; dsimp only at h; split at h <;> first | exact h.elim | skip)
    all_goals first
      | exact absurd h.1 (by decide)
      | (rcases h.1 with h1 | ⟨h1, -⟩ <;> exact absurd h1 (by decide))
      | exact W.vret hx hb hret (hq none h.2 (fun w hw => nomatch hw)) hS.2.2 hdg hlk
  | some ty =>
    rw [hret] at hrk
    subst hrk
    cases i <;> first | exact h.elim | skip
    all_goals (unfold mg_rt at h; dsimp only at h; split at h <;> first | exact h.elim | skip)
    all_goals (cases ty <;> first | (exact absurd h.1 (by decide)) | skip)
    all_goals first
      | exact W.iret hx hb hret (hq _ h.2 (fun w hw => by cases hw; exact hst _ List.mem_cons_self)) hS.2.2 hdg hlk
      | exact W.lret hx hb hret (hq _ h.2 (fun w hw => by cases hw; exact hst _ List.mem_cons_self)) hS.2.2 hdg hlk
      | exact W.dret hx hb hret (hq _ h.2 (fun w hw => by cases hw; trivial)) hS.2.2 hdg hlk
      | exact W.fret hx hb hret (hq _ h.2 (fun w hw => by cases hw; trivial)) hS.2.2 hdg hlk
      | exact W.aret hx hb hret (Or.inl ⟨_, rfl⟩) (Or.inr ⟨_, rfl⟩) (hq _ h.2 (fun w hw => by cases hw; exact hst _ List.mem_cons_self)) hS.2.2 hdg hlk
      | skip
    all_goals (
      have h2 := h.2
      rcases h.1 with h1 | ⟨h0, h1⟩ <;> first
        | exact absurd h1 (by decide)
        | exact absurd h0 (by decide)
        | (refine W.zret hx hb hret ?_ (hq _ h2 (fun w hw => by cases hw; exact hst _ List.mem_cons_self)) hS.2.2 hdg hlk
           rcases h1 with rfl | rfl <;> rfl))
/-- what a thrown exception meets in this method: its handlers, or the caller -/
theorem gs_hand (C : mg_cx p l R s m args meth c D nL AC AS cc own dp) {x : Nat} (x1 : 1 ≤ x) (x6 : x ≤ 6) {M' : mg_M} {H1 : Heap} {locs1 : List Loc} {cells slots : Nat} {ls : Array Slot} {q0 : Nat} {ce : Cell} (hH : mg_H D M' s H1) (hS : va_S (mg_A D) s.heap H1 locs1) (hF : mg_Fr ls nL L) (hc : cells + B ≤ AC) (hs : slots + 160 * B ≤ AS) (hce : H1[q0]? = some ce) (hcv : ce.vm = .none) (hcl : s.vm.findClass (mg_ex x) = some ce.cls) {Q : State → Prop} {rest : List Value}
    (hcast : va_Nw (.castable (mg_ex x) (mg_ex x)) s) (hnc : ∀ a b, 1 ≤ a → a ≤ 6 → 1 ≤ b → b ≤ 6 → a ≠ b → va_Nc (mg_ex a) (mg_ex b) s) :
    ∀ (hs0 : List (Nat × Nat × Nat × Nat)) (ct : List Nat) (pre : List ExceptionTableEntry), c.exceptionTable.toList = pre ++ (hs0.zip ct).map (fun z => (⟨z.1.1, z.1.2.1, z.1.2.2.1, z.2⟩ : ExceptionTableEntry)) → hs0.length = ct.length →
      (∀ z ∈ hs0.zip ct, 1 ≤ z.1.2.2.2 ∧ z.1.2.2.2 ≤ 6 ∧ z.2 ≠ 0 ∧ (Cond.classLink own z.2 (mg_ex z.1.2.2.2)).before args s = true) →
      (∀ z ∈ pre, covers z pc = false ∨ (z.catchType ≠ 0 ∧ ∃ nm : String, (Cond.classLink own z.catchType nm).before args s = true ∧ va_Nc (mg_ex x) nm s)) →
      mg_hand hs0 pc x (fun h => ∀ q : Nat, mg_G p l e R s m args below meth c Q D nL AC AS h L [.inr (.inl q)] M' B) (c.exceptionTable.toList = c.exceptionTable.toList → (∀ z ∈ c.exceptionTable.toList, covers z pc = false ∨ (z.catchType ≠ 0 ∧ ∃ nm : String, (Cond.classLink own z.catchType nm).before args s = true ∧ va_Nc (mg_ex x) nm s)) → vx_W p l e R s m args below meth c H1 locs1 cells slots Q (F0 m pc ls rest) q0) →
      vx_W p l e R s m args below meth c H1 locs1 cells slots Q (F0 m pc ls rest) q0 := by
  have C9 := C
  obtain ⟨hx, hb, hml, hts, hown, -⟩ := C9
  intro hs0
  induction hs0 with
  | nil =>
    intro ct pre he hlen hz hpre h
    refine h rfl (fun z hz => hpre z ?_)
    rw [he] at hz
    simpa using hz
  | cons y hs0 ih =>
    intro ct pre he hlen hz hpre h
    obtain ⟨a, b, hp, k⟩ := y
    cases ct with
    | nil => cases hlen
    | cons t ct =>
      have hz0 := hz ((a, b, hp, k), t) List.mem_cons_self
      have he2 : c.exceptionTable.toList = pre ++ (⟨a, b, hp, t⟩ : ExceptionTableEntry) :: ((hs0.zip ct).map (fun z => (⟨z.1.1, z.1.2.1, z.1.2.2.1, z.2⟩ : ExceptionTableEntry))) := he
      have nxt2 : (covers (⟨a, b, hp, t⟩ : ExceptionTableEntry) pc = false ∨ k ≠ x) → mg_hand hs0 pc x (fun h => ∀ q : Nat, mg_G p l e R s m args below meth c Q D nL AC AS h L [.inr (.inl q)] M' B) (c.exceptionTable.toList = c.exceptionTable.toList → (∀ z ∈ c.exceptionTable.toList, covers z pc = false ∨ (z.catchType ≠ 0 ∧ ∃ nm : String, (Cond.classLink own z.catchType nm).before args s = true ∧ va_Nc (mg_ex x) nm s)) → vx_W p l e R s m args below meth c H1 locs1 cells slots Q (F0 m pc ls rest) q0) → vx_W p l e R s m args below meth c H1 locs1 cells slots Q (F0 m pc ls rest) q0 := by
        intro hk h2
        refine ih ct (pre ++ [⟨a, b, hp, t⟩]) (by rw [List.append_assoc]; exact he2) (Nat.succ.inj hlen) (fun z hz9 => hz z (List.mem_cons_of_mem _ hz9)) (fun z hz9 => ?_) h2
        rcases List.mem_append.mp hz9 with h9 | h9
        · exact hpre z h9
        · rw [List.mem_singleton] at h9
          subst h9
          rcases hk with hk | hk
          · exact Or.inl hk
          · exact Or.inr ⟨hz0.2.2.1, _, hz0.2.2.2, hnc x k x1 x6 hz0.1 hz0.2.1 (fun q => hk q.symm)⟩
      unfold mg_hand at h
      cases hcov : (Nat.ble a pc && Nat.blt pc b) with
      | false =>
        rw [hcov, Bool.false_and] at h
        refine nxt2 (Or.inl ?_) h
        rw [Bool.and_eq_false_iff] at hcov
        show (decide (a ≤ pc) && decide (pc < b)) = false
        rw [Bool.and_eq_false_iff]
        rcases hcov with h9 | h9
        · exact Or.inl (decide_eq_false (fun q => by rw [Nat.ble_eq_true_of_le q] at h9; cases h9))
        · exact Or.inr (decide_eq_false (fun q => by rw [show Nat.blt pc b = true from Nat.ble_eq_true_of_le q] at h9; cases h9))
      | true =>
        rw [hcov, Bool.true_and] at h
        have hcv2 : covers (⟨a, b, hp, t⟩ : ExceptionTableEntry) pc = true := by
          rw [Bool.and_eq_true] at hcov
          show (decide (a ≤ pc) && decide (pc < b)) = true
          rw [decide_eq_true (show a ≤ pc from Nat.le_of_ble_eq_true hcov.1), decide_eq_true (show pc < b from Nat.le_of_ble_eq_true hcov.2)]
          rfl
        cases hkx : Nat.beq k x with
        | false =>
          rw [hkx] at h
          exact nxt2 (Or.inr (fun q => by subst q; rw [show Nat.beq k k = true from Nat.beq_refl k] at hkx; cases hkx)) h
        | true =>
          rw [hkx] at h
          have := Nat.eq_of_beq_eq_true hkx
          subst this
          have k2 := h q0 H1 locs1 cells slots ls hH hS hF (mg_okc trivial (fun w hw => nomatch hw)) hc hs
          exact vx_catch hown pre ⟨a, b, hp, t⟩ _ he2 hpre hcv2 hz0.2.2.1 hz0.2.2.2 (va_Nw.use rfl hcast) hce hcv hcl k2
end MGE
end
section
theorem mg_exs {k : Nat} (h1 : 1 ≤ k) (h6 : k ≤ 6) : k = 1 ∨ k = 2 ∨ k = 3 ∨ k = 4 ∨ k = 5 ∨ k = 6 := by omega
theorem mg_H_nxt {D : mg_D} {M : mg_M} {s : State} {H H' : Heap} (hH : mg_H D M s H) (hz : H.size ≤ H'.size) (oq : ∀ q, q < H.size → H'[q]? = H[q]?) : mg_H D (nxt M H'.size) s H' := by
  obtain ⟨g1, g2, g3, g4, g5, g6, g7, g8⟩ := hH
  refine ⟨rfl, by omega, g3, fun a q1 q2 => ?_, fun a q1 => ?_, g6, g7, g8⟩
  · obtain ⟨f1, f2⟩ := g4 a q1 q2
    exact ⟨f1.kept (oq a f1.lt), f2⟩
  · obtain ⟨⟨scr, e1, e2, e3, e4, e5⟩, f2⟩ := g5 a q1
    exact ⟨⟨scr, by rw [oq a (by omega)]; exact e1, e2, e3, e4, e5⟩, f2⟩
section MGT
variable {p : Program} {l : Launch} {e : Env} {R : Room} {s : State} {m : MethodId} {args : Array Value} {below : List Frame} {meth : Method} {c : Code} {D : mg_D} {nL AC AS : Nat} {cc : ByteArray} {dp : Nat} {pc : Nat} {L : mg_L} {st : List mg_V} {M : mg_M} {B : Nat} {N0 : mg_O} {X0 : mg_X}
theorem gs_throw (C : mg_cx p l R s m args meth c D nL AC AS cc "MergeGrid" dp) (hno : ∀ x ∈ c.exceptionTable.toList, False) (hdp : 6 ≤ dp) {ik is ic k : Nat} {text : String} (h1 : 1 ≤ k) (h6 : k ≤ 6) (hk : Cond.classLink "MergeGrid" ik (mg_ex k) ∈ mg_T) (hini : Cond.initialized (mg_ex k) ∈ mg_T) (hstr : (is, text) ∈ mg_str)
    (hic : (k = 1 ∧ ic = 68) ∨ (k = 2 ∧ ic = 75) ∨ (k = 3 ∧ ic = 113) ∨ (k = 4 ∧ ic = 122) ∨ (k = 5 ∧ ic = 296) ∨ (k = 6 ∧ ic = 308)) (hB : 1 ≤ B) (hlen : st.length ≤ 4)
    (d0 : decode cc pc = .ok (.new ik, 3)) (d3 : decode cc (pc + 3) = .ok (.dup, 1))
    (dd : (k ≠ 5 ∧ decode cc (pc + 4) = .ok (.ldc is, 2) ∧ decode cc (pc + 6) = .ok (.invokespecial ic, 3) ∧ decode cc (pc + 9) = .ok (.athrow, 1)) ∨ (decode cc (pc + 4) = .ok (.ldc_w is, 3) ∧ decode cc (pc + 7) = .ok (.invokespecial ic, 3) ∧ decode cc (pc + 10) = .ok (.athrow, 1)))
    (hX : ∀ n, nx M ≤ n → X0 k (nxt M n)) : mg_G p l e R s m args below meth c (vx_MQ below (mg_Qc D N0) (mg_XC D X0) args s AC AS (mg_A D)) D nL AC AS pc L st M B := by
  intro H locs cells slots ls hH hS hF hst hc hs
  have C9 := C
  obtain ⟨hx, hb, hml, hts, hown, hK, hW, hZ, hAC, hAS, hlk, hl, hRf, hRl, -⟩ := C9
  have hsum := mg_sum st
  obtain ⟨sa, hsa⟩ := hW.2.2.1 _ hstr
  have hxx : ∀ t : State, s.vm.Alike t.vm → H.size ≤ t.heap.size → (∀ q : Nat, q < H.size → t.heap[q]? = H[q]?) → mg_XC D X0 (mg_ex k) s t := by
    intro t hal hz oq
    have hH2 := mg_H_nxt hH hz oq
    have hS2 : va_S (mg_A D) s.heap t.heap locs := ⟨Nat.le_trans hS.1 hz, fun q q1 q2 => (oq q (Nat.lt_of_lt_of_le q1 hS.1)).trans (hS.2.1 q q1 q2), hS.2.2⟩
    exact ⟨⟨k, _, rfl, h1, h6, hX _ (by rw [show nx M = H.size from hH.1]; exact hz), hH2.moved hal⟩, hS2.F rfl⟩
  have atk : ∀ {ws : List Cond}, ws.all (fun w => decide (w ∈ mg_T) || decide (w = .castable (mg_ex k) (mg_ex k)) || decide (w ∈ mg_nwD.map Cond.declares)) = true → ∀ w ∈ ws, w.before args s = true := by
    intro ws h w hw
    have h9 := List.all_eq_true.mp h w hw
    simp only [Bool.or_eq_true, decide_eq_true_eq] at h9
    rcases h9 with (h9 | h9) | h9
    · exact hts _ h9
    · subst h9
      refine va_Nw.use rfl (hW.1 _ ?_)
      rcases mg_exs h1 h6 with rfl | rfl | rfl | rfl | rfl | rfl <;> decide
    · obtain ⟨x, hx9, rfl⟩ := List.mem_map.mp h9
      exact va_Nw.use rfl (hW.2.2.2.1 _ hx9)
  have gdk : ∀ {ws : List Cond}, ws.all vx_ot = true → ∀ w ∈ Cond.classLink "MergeGrid" ik (mg_ex k) :: Cond.initialized (mg_ex k) :: ws, vx_ot w = true := by
    intro ws h w hw
    rcases List.mem_cons.mp hw with rfl | hw
    · rfl
    · rcases List.mem_cons.mp hw with rfl | hw
      · rfl
      · exact List.all_eq_true.mp h w hw
  have hout : ∀ pc', ∀ x ∈ c.exceptionTable.toList, covers x pc' = false := fun pc' x hx => (hno x hx).elim
  have h5 : k = 5 ∨ k ≠ 5 := by omega
  rcases h5 with rfl | h5
  · have hic5 : ic = 296 := by omega
    subst hic5
    rcases dd with ⟨q, -⟩ | ⟨d4, d7, d10⟩
    · exact absurd rfl q
    · exact mg_throwX mg_x5.1 mg_x5.2.1 mg_x5.2.2.1 mg_x5.2.2.2 hx hb hl hown mg_at5.2.2 mg_fitN (hts _ hk) (hts _ hini) hsa (atk mg_at5.1) (gdk mg_at5.2.1) hZ.1 hZ.2 hS (hF.1.1.trans hml.symm) d0 d3 d4 d7 d10 (hout _) (by show 2 + 3 < _; omega) (by show _ + (13 * (2 + 1) + 43) ≤ _; omega) (by omega) (by omega) hlk hxx hS.2.2 (by omega) (by omega)
  · have hat : (vx_atS "MergeGrid" ic (mg_ex k) ["java/lang/RuntimeException", "java/lang/Exception"]).all (fun w => decide (w ∈ mg_T) || decide (w = .castable (mg_ex k) (mg_ex k)) || decide (w ∈ mg_nwD.map Cond.declares)) = true ∧ (vx_atS "MergeGrid" ic (mg_ex k) ["java/lang/RuntimeException", "java/lang/Exception"]).all vx_ot = true ∧ Bundle.fit (mg_ex k) = true := by
      rcases hic with ⟨rfl, rfl⟩ | ⟨rfl, rfl⟩ | ⟨rfl, rfl⟩ | ⟨rfl, rfl⟩ | ⟨rfl, rfl⟩ | ⟨rfl, rfl⟩
      · exact mg_at1
      · exact mg_at2
      · exact mg_at3
      · exact mg_at4
      · exact absurd rfl h5
      · exact mg_at6
    rcases dd with ⟨-, d4, d6, d9⟩ | ⟨d4, d7, d10⟩
    · exact vx_throwS hx hb hl hown hat.2.2 mg_fitN (hts _ hk) (hts _ hini) hsa (atk hat.1) (gdk hat.2.1) hZ.1 hZ.2 hS (hF.1.1.trans hml.symm) d0 d3 d4 d6 d9 (hout _) (by show 2 + 3 < _; omega) (by show _ + (13 * (2 + 1) + 43) ≤ _; omega) (by omega) (by omega) hlk hxx hS.2.2 (by omega) (by omega)
    · exact vx_throwSW hx hb hl hown hat.2.2 mg_fitN (hts _ hk) (hts _ hini) hsa (atk hat.1) (gdk hat.2.1) hZ.1 hZ.2 hS (hF.1.1.trans hml.symm) d0 d3 d4 d7 d10 (hout _) (by show 2 + 3 < _; omega) (by show _ + (13 * (2 + 1) + 43) ≤ _; omega) (by omega) (by omega) hlk hxx hS.2.2 (by omega) (by omega)
end MGT
end
section
/-! the check of decoded code; the walk is sound -/
def mg_chk1 (o : Nat) (ini : Bool) (nL dp : Nat) (nh : Bool) (C : mg_C) (cc : ByteArray) (pc : Nat) (i : Instr) (len a b c d : Nat) : Bool := match i with
  | .iconst n => decide (-2147483648 ≤ n ∧ n < 2147483648) && Nat.beq len 1
  | .bipush n => decide ((-2147483648 ≤ n ∧ n < 2147483648) ∧ (Int8.ofInt n).toInt32 = Int32.ofInt n) && Nat.beq len 2
  | .sipush n => decide ((-2147483648 ≤ n ∧ n < 2147483648) ∧ (Int16.ofInt n).toInt32 = Int32.ofInt n) && Nat.beq len 3
  | .lconst n => decide (n.val = a) && Nat.beq len 1
  | .ldc2_w i => decide ((o, i, a) ∈ mg_kp ∧ a < 9223372036854775808) && Nat.beq len 3
  | .fconst f => decide (f = 0) && Nat.beq len 1
  | .dconst f => decide (f = 0) && Nat.beq len 1
  | .iload_n n => decide (n.val = a) && Nat.beq len 1
  | .iload i => decide (i = a) && Nat.beq len 2
  | .aload_n n => decide (n.val = a) && Nat.beq len 1
  | .aload i => decide (i = a) && Nat.beq len 2
  | .lload_n n => decide (n.val = a) && Nat.beq len 1
  | .lload i => decide (i = a) && Nat.beq len 2
  | .dload_n n => decide (n.val = a) && Nat.beq len 1
  | .dload i => decide (i = a) && Nat.beq len 2
  | .istore_n n => decide (n.val = a ∧ a < nL) && Nat.beq len 1
  | .istore i => decide (i = a ∧ a < nL) && Nat.beq len 2
  | .astore_n n => decide (n.val = a ∧ a < nL) && Nat.beq len 1
  | .astore i => decide (i = a ∧ a < nL) && Nat.beq len 2
  | .lstore_n n => decide (n.val = a ∧ a + 1 < nL) && Nat.beq len 1
  | .lstore i => decide (i = a ∧ a + 1 < nL) && Nat.beq len 2
  | .dstore_n n => decide (n.val = a ∧ a + 1 < nL) && Nat.beq len 1
  | .dstore i => decide (i = a ∧ a + 1 < nL) && Nat.beq len 2
  | .iinc i n => decide (i = a ∧ a < nL) && Nat.beq len 3
  | .iadd => Nat.beq len 1
  | .isub => Nat.beq len 1
  | .imul => Nat.beq len 1
  | .idiv => Nat.beq len 1
  | .irem => Nat.beq len 1
  | .iand => Nat.beq len 1
  | .l2i => Nat.beq len 1
  | .ladd => Nat.beq len 1
  | .lsub => Nat.beq len 1
  | .f2d => Nat.beq len 1
  | .fdiv => Nat.beq len 1
  | .ddiv => Nat.beq len 1
  | .i2c => Nat.beq len 1
  | .i2l => Nat.beq len 1
  | .lcmp => Nat.beq len 1
  | .i2f => Nat.beq len 1
  | .i2d => Nat.beq len 1
  | .dcmp op => Nat.beq len 1
  | .dup => Nat.beq len 1
  | .dup2 => Nat.beq len 1
  | .pop => Nat.beq len 1
  | .ifCond op off => decide ((pc : Int) + off = (a : Int)) && Nat.beq len 3
  | .if_icmp op off => decide ((pc : Int) + off = (a : Int)) && Nat.beq len 3
  | .goto off => decide ((pc : Int) + off = (a : Int)) && Nat.beq len 3
  | .tableswitch df lo hi offs => decide ((pc : Int) + df = (a : Int) ∧ lo = 0 ∧ hi + 1 = (C.2.2.2.2.length : Int) ∧ offs.toList.map (fun x => (pc : Int) + x) = C.2.2.2.2.map (fun (x : Nat) => (x : Int)) ∧ C.2.2.2.2.length < 1000)
  | .getfield i => decide ((o, i, a, b) ∈ mg_fp ∧ 1 ≤ a ∧ a ≤ 7 ∧ b < mg_N a ∧ c = mg_tc a b ∧ c ≠ 3) && Nat.beq len 3
  | .putfield i => decide ((o, i, a, b) ∈ mg_fp ∧ 1 ≤ a ∧ a ≤ 7 ∧ b < mg_N a ∧ c = mg_tc a b ∧ c ≠ 3) && decide ((mg_F a b).2.2.2 = false ∨ ((mg_F a b).2.2.2 = true ∧ ini = true ∧ o = a)) && Nat.beq len 3
  | .iaload => decide (a = 8 ∨ a = 12) && Nat.beq len 1
  | .aaload => Nat.beq len 1
  | .laload => Nat.beq len 1
  | .daload => Nat.beq len 1
  | .iastore => Nat.beq len 1
  | .aastore => Nat.beq len 1
  | .lastore => Nat.beq len 1
  | .dastore => Nat.beq len 1
  | .arraylength => decide (a = 8 ∨ a = 9 ∨ a = 12) && Nat.beq len 1
  | .newarray t => decide ((t = .int ∧ a = 8) ∨ (t = .long ∧ a = 10) ∨ (t = .double ∧ a = 11)) && Nat.beq len 2
  | .anewarray i => decide ((o, i, 3) ∈ mg_cp) && Nat.beq len 3
  | .new i => (bif Nat.blt a 100 then decide ((o, i, a) ∈ mg_cp ∧ 1 ≤ a ∧ a ≤ 7) else nh && decide (o = 6 ∧ 6 ≤ dp ∧ (i, b, c, a - 100) ∈ mg_tp) && decide (decode cc (pc + 3) = .ok (.dup, 1)) && (bif Nat.beq d 0 then decide (a - 100 ≠ 5 ∧ decode cc (pc + 4) = .ok (.ldc b, 2) ∧ decode cc (pc + 6) = .ok (.invokespecial c, 3) ∧ decode cc (pc + 9) = .ok (.athrow, 1)) else decide (decode cc (pc + 4) = .ok (.ldc_w b, 3) ∧ decode cc (pc + 7) = .ok (.invokespecial c, 3) ∧ decode cc (pc + 10) = .ok (.athrow, 1)))) && Nat.beq len 3
  | .invokevirtual i => decide ((o, i, a) ∈ mg_mp) && (match mg_mt[a - 1]? with | some q => decide (q.2.2.2.2.1 = [] ∧ q.2.2.2.2.2.2.2.2 = d ∧ 1 ≤ d ∧ d ≤ 7 ∧ q.2.2.2.2.2.1 < dp ∧ q.2.2.2.2.2.2.2.1 = b + 1 ∧ q.2.2.2.2.2.2.1 = c) | none => false) && Nat.beq len 3
  | .invokespecial i => (bif Nat.beq a 0 then decide ((o, i, 0) ∈ mg_lp ∧ 2 ≤ dp) else (match mg_mt[a - 1]? with | some q => decide (q.2.2.2.2.1 = [] ∧ 100 ≤ q.2.2.2.2.2.2.2.2 ∧ q.2.2.2.2.2.1 < dp ∧ q.2.2.2.2.2.2.2.1 = b + 1 ∧ q.2.2.2.2.2.2.1 = c ∧ ((o, i, a) ∈ mg_mp ∨ (mg_R o, i, q.1) ∈ mg_nwN)) | none => false)) && Nat.beq len 3
  | .invokestatic i => (bif Nat.blt a 1000 then (match mg_mt[a - 1]? with | some q => decide (q.2.2.2.2.2.2.2.2 = 0 ∧ q.2.2.2.2.2.1 < dp ∧ q.2.2.2.2.2.2.2.1 = b ∧ q.2.2.2.2.2.2.1 = c ∧ (o, i, a) ∈ mg_mp) | none => false) else decide ((o, i, a) ∈ mg_lp ∧ 2 ≤ dp ∧ (a = 1000 ∨ a = 1001 ∨ a = 1002))) && Nat.beq len 3
  | .ireturn => decide (C.2.2.2.1.1 = 1 ∨ C.2.2.2.1.1 = 2) && Nat.beq len 1
  | .areturn => decide (C.2.2.2.1.1 = 3) && Nat.beq len 1
  | .lreturn => decide (C.2.2.2.1.1 = 4) && Nat.beq len 1
  | .freturn => decide (C.2.2.2.1.1 = 5) && Nat.beq len 1
  | .dreturn => decide (C.2.2.2.1.1 = 6) && Nat.beq len 1
  | .return_ => decide (C.2.2.2.1.1 = 0) && Nat.beq len 1
  | _ => false
def mg_chkE (o : Nat) (ini : Bool) (nL dp : Nat) (nh : Bool) (C : mg_C) (cc : ByteArray) (e : mg_E) : Bool := Nat.beq e.2.1 (e.1 + e.2.2.1.2) && decide (decode cc e.1 = .ok e.2.2.1) && mg_chk1 o ini nL dp nh C cc e.1 e.2.2.1.1 e.2.2.1.2 e.2.2.2.1 e.2.2.2.2.1 e.2.2.2.2.2.1 e.2.2.2.2.2.2
theorem mg_ifM {op : Jvm.ClassFile.Cond} {x y : Int} {T F T' F' : Prop} (h : mg_if op x y T F) (ht : T → T') (hf : F → F') : mg_if op x y T' F' := by
  cases op <;> exact ⟨fun q => ht (h.1 q), fun q => hf (h.2 q)⟩
theorem mg_swM {ts : List Nat} {x : Int} {j : Nat} {k k' : Nat → Prop} (h : mg_sw ts x j k) (hk : ∀ t, k t → k' t) : mg_sw ts x j k' := by
  induction ts generalizing j with
  | nil => trivial
  | cons t ts ih => exact ⟨fun q => hk t (h.1 q), ih h.2⟩
theorem mg_swS {ts : List Nat} {x : Int} {j : Nat} {k : Nat → Prop} (h : mg_sw ts x j k) : ∀ i t, ts[i]? = some t → x = ((j + i : Nat) : Int) → k t := by
  induction ts generalizing j with
  | nil => intro i t hi; simp at hi
  | cons t0 ts ih =>
    intro i t hi hx
    cases i with
    | zero => simp at hi; subst hi; exact h.1 (by simpa using hx)
    | succ i => exact ih h.2 i t (by simpa using hi) (by rw [hx]; congr 1; omega)
theorem mg_handM {hs : List (Nat × Nat × Nat × Nat)} {pc x : Nat} {k k' : Nat → Prop} {n : Prop} (h : mg_hand hs pc x k n) (hk : ∀ t, k t → k' t) : mg_hand hs pc x k' n := by
  induction hs with
  | nil => exact h
  | cons q hs ih =>
    obtain ⟨a, b, t, c⟩ := q
    unfold mg_hand at h ⊢
    cases hb : ((Nat.ble a pc && Nat.blt pc b) && Nat.beq c x) with
    | true => rw [hb] at h; exact hk _ h
    | false => rw [hb] at h; exact ih h
theorem mg_filt {w : Cond} (h1 : w ∈ lw_tbl) (h2 : goodWord w = true) : w ∈ mg_T := List.mem_filter.mpr ⟨h1, h2⟩
theorem mg_fpT {o i a b : Nat} (h : (o, i, a, b) ∈ mg_fp) : Cond.fieldLink (mg_R o) i (mg_F a b).1 (mg_F a b).2.1 (mg_F a b).2.2.1 ∈ mg_T := mg_filt (mg_memf mg_fpk _ h) (List.all_eq_true.mp mg_fpg _ h)
theorem mg_cpT {o i a : Nat} (h : (o, i, a) ∈ mg_cp) : Cond.classLink (mg_R o) i (mg_R a) ∈ mg_T := mg_filt (mg_memf mg_cpk _ h) (List.all_eq_true.mp mg_cpg _ h)
theorem mg_lpT {o i a : Nat} (h : (o, i, a) ∈ mg_lp) : Cond.methodLink (mg_R o) i (mg_lib a) ∈ mg_T := mg_filt (mg_memf mg_lpk _ h) (List.all_eq_true.mp mg_lpg _ h)
theorem mg_mpT {o i a : Nat} (h : (o, i, a) ∈ mg_mp) {q : mg_Q} (hq : mg_mt[a - 1]? = some q) : Cond.methodLink (mg_R o) i q.1 ∈ mg_T := by
  have h1 : Cond.methodLink (mg_R o) i (mg_nm a) ∈ mg_T := mg_filt (mg_memf mg_mpk _ h) (List.all_eq_true.mp mg_mpg _ h)
  unfold mg_nm at h1
  rw [hq] at h1
  exact h1
theorem mg_oneT {w : Cond} (h : w ∈ mg_one) : w ∈ mg_T := mg_mem mg_onek.1 mg_onek.2 w h
theorem mg_o {i : Nat} {w : Cond} (h : mg_one[i]? = some w) : w ∈ mg_T := mg_oneT (List.mem_of_getElem? h)
theorem mg_insT {a : Nat} (h1 : 1 ≤ a) (h7 : a ≤ 7) : Cond.instantiable (mg_R a) (mg_N a) ∈ mg_T := by
  have : a = 1 ∨ a = 2 ∨ a = 3 ∨ a = 4 ∨ a = 5 ∨ a = 6 ∨ a = 7 := by omega
  rcases this with rfl | rfl | rfl | rfl | rfl | rfl | rfl
  · exact mg_o (i := 0) rfl
  · exact mg_o (i := 2) rfl
  · exact mg_o (i := 4) rfl
  · exact mg_o (i := 6) rfl
  · exact mg_o (i := 8) rfl
  · exact mg_o (i := 10) rfl
  · exact mg_o (i := 12) rfl
theorem mg_iniT {a : Nat} (h1 : 1 ≤ a) (h7 : a ≤ 7) : Cond.initialized (mg_R a) ∈ mg_T := by
  have : a = 1 ∨ a = 2 ∨ a = 3 ∨ a = 4 ∨ a = 5 ∨ a = 6 ∨ a = 7 := by omega
  rcases this with rfl | rfl | rfl | rfl | rfl | rfl | rfl
  · exact mg_o (i := 1) rfl
  · exact mg_o (i := 3) rfl
  · exact mg_o (i := 5) rfl
  · exact mg_o (i := 7) rfl
  · exact mg_o (i := 9) rfl
  · exact mg_o (i := 11) rfl
  · exact mg_o (i := 13) rfl
theorem mg_exT {a : Nat} (h1 : 1 ≤ a) (h7 : a ≤ 6) : Cond.initialized (mg_ex a) ∈ mg_T := by
  rcases mg_exs h1 h7 with rfl | rfl | rfl | rfl | rfl | rfl
  · exact mg_o (i := 14) rfl
  · exact mg_o (i := 15) rfl
  · exact mg_o (i := 16) rfl
  · exact mg_o (i := 17) rfl
  · exact mg_o (i := 18) rfl
  · exact mg_o (i := 19) rfl
theorem mg_arrT {t : ArrayType} {a : Nat} (h : (t = .int ∧ a = 8) ∨ (t = .long ∧ a = 10) ∨ (t = .double ∧ a = 11)) : Cond.arrayClass (newarray.typeOf t) ∈ mg_T := by
  rcases h with ⟨rfl, -⟩ | ⟨rfl, -⟩ | ⟨rfl, -⟩
  · exact mg_o (i := 20) rfl
  · exact mg_o (i := 21) rfl
  · exact mg_o (i := 22) rfl
theorem mg_mx1 : Cond.static Lib.Math.max.name ∈ mg_T := mg_o (i := 23) rfl
theorem mg_mi1 : Cond.static Lib.Math.min.name ∈ mg_T := mg_o (i := 24) rfl
theorem mg_mx2 : Cond.initialized "java/lang/Math" ∈ mg_T := mg_o (i := 25) rfl
theorem mg_mx3 : Cond.code Lib.Math.max.name Lib.Math.max.code 2 (some .int) ∈ mg_T := mg_o (i := 26) rfl
theorem mg_mi3 : Cond.code Lib.Math.min.name Lib.Math.min.code 2 (some .int) ∈ mg_T := mg_o (i := 27) rfl
theorem mg_ac1 : Cond.native arraycopyName ∈ mg_T := mg_o (i := 28) rfl
theorem mg_ac2 : Cond.static arraycopyName ∈ mg_T := mg_o (i := 29) rfl
theorem mg_ac3 : Cond.initialized "java/lang/System" ∈ mg_T := mg_o (i := 30) rfl
theorem mg_oi1 : Cond.instanceMethod Lib.objectInit ∈ mg_T := mg_o (i := 31) rfl
theorem mg_oi2 : Cond.code Lib.objectInit ⟨#[0xb1]⟩ 1 none ∈ mg_T := mg_o (i := 32) rfl
theorem mg_buyS {C : mg_C} {MT : Nat → List mg_V → mg_M → mg_O → mg_X → Prop} {Xo : mg_X} {K : mg_K} {pc nn a c B : Nat} {ls : mg_L} {as st : List mg_V} {M : mg_M} (h : mg_buy c B fun B => mg_call C MT Xo K pc nn a ls as st M B) :
    c ≤ B ∧ ∃ (N : mg_O) (X : mg_X), st.length ≤ 4 ∧ MT a as M N X ∧ (∀ v M', N v M' → K nn ls (v.toList ++ st) M' (B - c)) ∧ (∀ k M', X k M' → mg_hand C.2.2.1 pc k (fun h => ∀ q : Nat, K h ls [.inr (.inl q)] M' (B - c)) (Xo k M')) := by
  have go : ∀ {B : Nat}, mg_call C MT Xo K pc nn a ls as st M B → ∃ (N : mg_O) (X : mg_X), st.length ≤ 4 ∧ MT a as M N X ∧ (∀ v M', N v M' → K nn ls (v.toList ++ st) M' B) ∧ (∀ k M', X k M' → mg_hand C.2.2.1 pc k (fun h => ∀ q : Nat, K h ls [.inr (.inl q)] M' B) (Xo k M')) := by
    intro B h
    unfold mg_call at h
    cases hl : Nat.ble st.length 4 with
    | false => rw [hl] at h; exact h.elim
    | true =>
      rw [hl] at h
      obtain ⟨N, X, h1, h2, h3⟩ := h
      exact ⟨N, X, Nat.le_of_ble_eq_true hl, h1, h2, h3⟩
  unfold mg_buy at h
  cases hc : Nat.beq c 0 with
  | true =>
    rw [hc] at h
    have := Nat.eq_of_beq_eq_true hc
    subst this
    exact ⟨Nat.zero_le _, go h⟩
  | false =>
    rw [hc] at h
    exact ⟨h.1, go h.2⟩
section MGV
variable {p : Program} {l : Launch} {e : Env} {R : Room} {s : State} {m : MethodId} {args : Array Value} {below : List Frame} {meth : Method} {c : Code} {Q : State → Prop} {D : mg_D} {nL AC AS : Nat} {cc : ByteArray} {pc : Nat} {L : mg_L} {st : List mg_V} {M : mg_M} {B : Nat}
theorem gs_tsw (hx : p.tables.exec = Jvm.exec) (hb : c.code = cc) {df lo hi : Int} {offs : Array Int} {len a : Nat} {ts : List Nat} {x : Int} (h1 : (pc : Int) + df = (a : Int)) (h2 : lo = 0) (h3 : hi + 1 = (ts.length : Int)) (h4 : offs.toList.map (fun x => (pc : Int) + x) = ts.map (fun (x : Nat) => (x : Int))) (h5 : ts.length < 1000)
    (hd : decode cc pc = .ok (.tableswitch df lo hi offs, len)) (k1 : mg_sw ts x 0 (fun t => mg_G p l e R s m args below meth c Q D nL AC AS t L st M B)) (k2 : (x < 0 ∨ (ts.length : Int) ≤ x) → mg_G p l e R s m args below meth c Q D nL AC AS a L st M B) : mg_G p l e R s m args below meth c Q D nL AC AS pc L (.inl x :: st) M B := by
  intro H locs cells slots ls hH hS hF hst hc hs
  refine mg_ok2 hst fun hx1 hst1 => ?_
  have hx1 : -2147483648 ≤ x ∧ x < 2147483648 := hx1
  have e9 : (Int32.ofInt x).toInt = x := mg_toI hx1.1 hx1.2
  by_cases hxr : x < 0 ∨ (ts.length : Int) ≤ x
  · exact lv_tableOut (x := Int32.ofInt x) hx hb hd (by rw [e9]; omega) h1 (k2 hxr H locs cells slots ls hH hS hF hst1 hc hs)
  · obtain ⟨n, rfl⟩ : ∃ n : Nat, x = (n : Int) := ⟨x.toNat, by omega⟩
    have hn : n < ts.length := by omega
    have g1 := congrArg (fun l => l[n]?) h4
    simp only [List.getElem?_map, Array.getElem?_toList, List.getElem?_eq_getElem hn, Option.map_some] at g1
    cases ho : offs[n]? with
    | none => rw [ho] at g1; cases g1
    | some off =>
      rw [ho] at g1
      have g2 := Option.some.inj g1
      exact lv_tableIn (x := Int32.ofInt (n : Int)) hx hb hd (by rw [e9]; omega) (by rw [e9]; omega) (off := off) (by rw [e9, h2, Int.sub_zero, Int.toNat_natCast]; exact ho) g2 ((mg_swS k1 n _ (List.getElem?_eq_getElem hn) (by simp)) H locs cells slots ls hH hS hF hst1 hc hs)
theorem mg_putI (hx : p.tables.exec = Jvm.exec) (hb : c.code = cc) (hts : ∀ w ∈ mg_T, w.before args s = true) {own : String} (hown : s.vm.findClass own = some m.cls) (hK : va_K (D.1, D.2.1) mg_cl (mg_tys D) s)
    {i a b r : Nat} (ha : 1 ≤ a) (ha7 : a ≤ 7) (hb2 : b < mg_N a) (hl : Cond.fieldLink own i (mg_F a b).1 (mg_F a b).2.1 (mg_F a b).2.2.1 ∈ mg_T) (hr : kd M r = a) (hdg : decode cc pc = .ok (.putfield i, 3))
    (hfin : (mg_F a b).2.2.2 = false ∨ ((mg_F a b).2.2.2 = true ∧ own = mg_R a ∧ meth.name = "<init>")) (h3 : mg_tc a b ≠ 3) {x : Int}
    (k : (mg_tc a b = 2 → x = 0 ∨ x = 1) ∧ (mg_tc a b = 1 → False) ∧ mg_G p l e R s m args below meth c Q D nL AC AS (pc + 3) L st (si M r b x) B) : mg_G p l e R s m args below meth c Q D nL AC AS pc L (.inl x :: .inr (.inl r) :: st) M B := by
  obtain ⟨q1, q2, k⟩ := k
  have hnf : narrow (mg_ty a b) (mg_tv (.inl x)) = mg_tv (.inl x) ∧ fits (mg_ty a b) (mg_tv (.inl x)) = true := by
    unfold mg_tc at q1 q2 h3
    cases h9 : mg_ty a b with
    | int => exact ⟨rfl, rfl⟩
    | boolean =>
      rw [h9] at q1
      rcases q1 rfl with rfl | rfl <;> exact ⟨rfl, rfl⟩
    | object _ => rw [h9] at q2; exact (q2 rfl).elim
    | array _ => rw [h9] at q2; exact (q2 rfl).elim
    | _ => rw [h9] at h3; exact absurd rfl h3
  refine gs_put0 hx hb hts hown hK ha ha7 hb2 hl hr hdg hfin (v := .inl x) hnf.1 hnf.2 (M' := si M r b x) rfl (fun _ => rfl) (fun _ => rfl) (fun z hz => ⟨fun k => if_neg (fun q => hz q.1), fun _ => rfl, fun _ => rfl, fun _ => rfl⟩) (fun hok hg z k => ?_) (fun _ _ => rfl) (fun j hj => ?_) k
  · show _ ≤ (if z = r ∧ _ then _ else _) ∧ (if z = r ∧ _ then _ else _) < _
    split
    · exact hok
    · exact hg z k
  · by_cases hjb : j = b
    · subst hjb
      rw [if_pos rfl, mg_fv_i q2 h3]
      have : gi (si M r j x) r j = x := if_pos ⟨rfl, rfl⟩
      rw [this]; rfl
    · rw [if_neg hjb]
      have e1 : gi (si M r b x) r j = gi M r j := if_neg (fun q => hjb q.2)
      have e2 : gr (si M r b x) r j = gr M r j := rfl
      unfold mg_fv
      rw [e1, e2]
theorem mg_putR (hx : p.tables.exec = Jvm.exec) (hb : c.code = cc) (hts : ∀ w ∈ mg_T, w.before args s = true) {own : String} (hown : s.vm.findClass own = some m.cls) (hK : va_K (D.1, D.2.1) mg_cl (mg_tys D) s)
    {i a b r : Nat} (ha : 1 ≤ a) (ha7 : a ≤ 7) (hb2 : b < mg_N a) (hl : Cond.fieldLink own i (mg_F a b).1 (mg_F a b).2.1 (mg_F a b).2.2.1 ∈ mg_T) (hr : kd M r = a) (hdg : decode cc pc = .ok (.putfield i, 3))
    (hfin : (mg_F a b).2.2.2 = false ∨ ((mg_F a b).2.2.2 = true ∧ own = mg_R a ∧ meth.name = "<init>")) (h3 : mg_tc a b = 1) {x : Nat} (hx0 : x ≠ 0)
    (k : mg_G p l e R s m args below meth c Q D nL AC AS (pc + 3) L st (sr M r b x) B) : mg_G p l e R s m args below meth c Q D nL AC AS pc L (.inr (.inl x) :: .inr (.inl r) :: st) M B := by
  have hnf : narrow (mg_ty a b) (mg_tv (.inr (.inl x))) = mg_tv (.inr (.inl x)) ∧ fits (mg_ty a b) (mg_tv (.inr (.inl x))) = true := by
    unfold mg_tc at h3
    cases h9 : mg_ty a b with
    | object _ => exact ⟨rfl, rfl⟩
    | array _ => exact ⟨rfl, rfl⟩
    | _ => rw [h9] at h3; exact absurd h3 (by decide)
  refine gs_put0 hx hb hts hown hK ha ha7 hb2 hl hr hdg hfin (v := .inr (.inl x)) hnf.1 hnf.2 (M' := sr M r b x) rfl (fun _ => rfl) (fun _ => rfl) (fun z hz => ⟨fun _ => rfl, fun k => if_neg (fun q => hz q.1), fun _ => rfl, fun _ => rfl⟩) (fun hok hg => hg) (fun _ _ => rfl) (fun j hj => ?_) k
  by_cases hjb : j = b
  · subst hjb
    rw [if_pos rfl, mg_fv_r h3]
    have : gr (sr M r j x) r j = x := if_pos ⟨rfl, rfl⟩
    rw [this, mg_rf hx0]; rfl
  · rw [if_neg hjb]
    have e1 : gi (sr M r b x) r j = gi M r j := rfl
    have e2 : gr (sr M r b x) r j = gr M r j := if_neg (fun q => hjb q.2)
    unfold mg_fv
    rw [e1, e2]
end MGV

section MGW
variable {p : Program} {l : Launch} {e : Env} {R : Room} {s : State} {m : MethodId} {args : Array Value} {below : List Frame} {meth : Method} {c : Code} {Q : State → Prop} {D : mg_D} {nL AC AS : Nat} {cc : ByteArray} {o dp : Nat} {ini nh : Bool} {C : mg_C}
set_option maxHeartbeats 4000000 in
set_option maxRecDepth 100000 in
theorem mg_stepS (Cx : mg_cx p l R s m args meth c D nL AC AS cc (mg_R o) dp) (hini : ini = true → meth.name = "<init>") {Q0 : mg_O} {Xo : mg_X}
    (HR : ∀ {pc : Nat} {i : Instr} {L : mg_L} {st : List mg_V} {M : mg_M} {B : Nat}, decode cc pc = .ok (i, 1) → mg_rt C.2.2.2.1.1 i st (fun v => Q0 v M) → mg_G p l e R s m args below meth c Q D nL AC AS pc L st M B)
    (HX : ∀ {x : Nat} {M' : mg_M} {pc : Nat} {L : mg_L} {st : List mg_V} {B : Nat} {H1 : Heap} {locs1 : List Loc} {cells slots : Nat} {ls : Array Slot} {q0 : Nat} {ce : Cell}, 1 ≤ x → x ≤ 6 → mg_hand C.2.2.1 pc x (fun h => ∀ q : Nat, mg_G p l e R s m args below meth c Q D nL AC AS h L [.inr (.inl q)] M' B) (Xo x M') → mg_H D M' s H1 → va_S (mg_A D) s.heap H1 locs1 → mg_Fr ls nL L → (∀ v ∈ st, mg_ok v) → cells + B ≤ AC → slots + 160 * B ≤ AS → H1[q0]? = some ce → ce.vm = .none → s.vm.findClass (mg_ex x) = some ce.cls → vx_W p l e R s m args below meth c H1 locs1 cells slots Q (F0 m pc ls (st.map mg_tv)) q0)
    (HT : ∀ {pc i b c9 k : Nat} {L : mg_L} {st : List mg_V} {M : mg_M} {B : Nat}, nh = true → o = 6 → 6 ≤ dp → (i, b, c9, k) ∈ mg_tp → decode cc pc = .ok (.new i, 3) → decode cc (pc + 3) = .ok (.dup, 1) → (k ≠ 5 ∧ decode cc (pc + 4) = .ok (.ldc b, 2) ∧ decode cc (pc + 6) = .ok (.invokespecial c9, 3) ∧ decode cc (pc + 9) = .ok (.athrow, 1)) ∨ (decode cc (pc + 4) = .ok (.ldc_w b, 3) ∧ decode cc (pc + 7) = .ok (.invokespecial c9, 3) ∧ decode cc (pc + 10) = .ok (.athrow, 1)) → 1 ≤ B ∧ st.length ≤ 4 → (∀ n, nx M ≤ n → Xo k (nxt M n)) → mg_G p l e R s m args below meth c Q D nL AC AS pc L st M B)
    {K : mg_K} (hK : ∀ pc ls st M B, K pc ls st M B → mg_G p l e R s m args below meth c Q D nL AC AS pc ls st M B) {pc len a b c9 d : Nat} {i : Instr} {ls : mg_L} {st : List mg_V} {M : mg_M} {B : Nat}
    (hd : decode cc pc = .ok (i, len)) (hc : mg_chk1 o ini nL dp nh C cc pc i len a b c9 d = true) (h : mg_step C (mg_Mt D l) Q0 Xo K pc (pc + len) i a b c9 d ls st M B) : mg_G p l e R s m args below meth c Q D nL AC AS pc ls st M B := by
  have Cx2 := Cx
  obtain ⟨hx, hb, hml, hts, hown, hKK, hWw, hZ, hAC, hAS, hlk, hl9, hRf, hRl, hbase⟩ := Cx2
  cases i
  case iconst n =>
    dsimp only [mg_chk1] at hc
    simp only [Bool.and_eq_true, decide_eq_true_eq, Nat.beq_eq] at hc
    dsimp only [mg_step] at h
    obtain rfl := hc.2
    exact gs_iconst hx hb hc.1 hd (hK _ _ _ _ _ h)
  case bipush n =>
    dsimp only [mg_chk1] at hc
    simp only [Bool.and_eq_true, decide_eq_true_eq, Nat.beq_eq] at hc
    dsimp only [mg_step] at h
    obtain rfl := hc.2
    exact gs_bipush hx hb hc.1.1 hc.1.2 hd (hK _ _ _ _ _ h)
  case sipush n =>
    dsimp only [mg_chk1] at hc
    simp only [Bool.and_eq_true, decide_eq_true_eq, Nat.beq_eq] at hc
    dsimp only [mg_step] at h
    obtain rfl := hc.2
    exact gs_sipush hx hb hc.1.1 hc.1.2 hd (hK _ _ _ _ _ h)
  case lconst n =>
    dsimp only [mg_chk1] at hc
    simp only [Bool.and_eq_true, decide_eq_true_eq, Nat.beq_eq] at hc
    dsimp only [mg_step] at h
    obtain rfl := hc.2
    exact gs_lconst hx hb hc.1 hd (hK _ _ _ _ _ h)
  case ldc2_w i =>
    dsimp only [mg_chk1] at hc
    simp only [Bool.and_eq_true, decide_eq_true_eq, Nat.beq_eq] at hc
    dsimp only [mg_step] at h
    obtain rfl := hc.2
    exact gs_ldc2 hx hb hown (hts _ (List.mem_filter.mpr ⟨mg_memf mg_kpk _ hc.1.1, List.all_eq_true.mp mg_kpg _ hc.1.1⟩)) hc.1.2 hd (hK _ _ _ _ _ h)
  case fconst f =>
    dsimp only [mg_chk1] at hc
    simp only [Bool.and_eq_true, decide_eq_true_eq, Nat.beq_eq] at hc
    dsimp only [mg_step] at h
    obtain rfl := hc.2
    obtain ⟨rfl, -⟩ := hc; exact gs_fconst hx hb hd (hK _ _ _ _ _ h)
  case dconst f =>
    dsimp only [mg_chk1] at hc
    simp only [Bool.and_eq_true, decide_eq_true_eq, Nat.beq_eq] at hc
    dsimp only [mg_step] at h
    obtain rfl := hc.2
    obtain ⟨rfl, -⟩ := hc; exact gs_dconst hx hb hd (hK _ _ _ _ _ h)
  case iload_n n =>
    dsimp only [mg_chk1] at hc
    simp only [Bool.and_eq_true, decide_eq_true_eq, Nat.beq_eq] at hc
    dsimp only [mg_step] at h
    obtain rfl := hc.2
    obtain ⟨v, hv, h⟩ := mg_getS h
    rcases v with x | x | x | x | x <;> first | exact h.elim | skip
    exact gs_iload_n hx hb hc.1 hv hd (hK _ _ _ _ _ h)
  case iload i =>
    dsimp only [mg_chk1] at hc
    simp only [Bool.and_eq_true, decide_eq_true_eq, Nat.beq_eq] at hc
    dsimp only [mg_step] at h
    obtain rfl := hc.2
    obtain ⟨v, hv, h2⟩ := mg_getS h
    rcases v with x | x | x | x | x <;> first | exact h2.elim | skip
    obtain ⟨rfl, -⟩ := hc
    exact gs_iload hx hb hv hd (hK _ _ _ _ _ h2)
  case aload_n n =>
    dsimp only [mg_chk1] at hc
    simp only [Bool.and_eq_true, decide_eq_true_eq, Nat.beq_eq] at hc
    dsimp only [mg_step] at h
    obtain rfl := hc.2
    obtain ⟨v, hv, h⟩ := mg_getS h
    rcases v with x | x | x | x | x <;> first | exact h.elim | skip
    exact gs_aload_n hx hb hc.1 hv hd (hK _ _ _ _ _ h)
  case aload i =>
    dsimp only [mg_chk1] at hc
    simp only [Bool.and_eq_true, decide_eq_true_eq, Nat.beq_eq] at hc
    dsimp only [mg_step] at h
    obtain rfl := hc.2
    obtain ⟨v, hv, h2⟩ := mg_getS h
    rcases v with x | x | x | x | x <;> first | exact h2.elim | skip
    obtain ⟨rfl, -⟩ := hc
    exact gs_aload hx hb hv hd (hK _ _ _ _ _ h2)
  case lload_n n =>
    dsimp only [mg_chk1] at hc
    simp only [Bool.and_eq_true, decide_eq_true_eq, Nat.beq_eq] at hc
    dsimp only [mg_step] at h
    obtain rfl := hc.2
    obtain ⟨v, hv, h⟩ := mg_getS h
    rcases v with x | x | x | x | x <;> first | exact h.elim | skip
    exact gs_lload_n hx hb hc.1 hv hd (hK _ _ _ _ _ h)
  case lload i =>
    dsimp only [mg_chk1] at hc
    simp only [Bool.and_eq_true, decide_eq_true_eq, Nat.beq_eq] at hc
    dsimp only [mg_step] at h
    obtain rfl := hc.2
    obtain ⟨v, hv, h2⟩ := mg_getS h
    rcases v with x | x | x | x | x <;> first | exact h2.elim | skip
    obtain ⟨rfl, -⟩ := hc
    exact gs_lload hx hb hv hd (hK _ _ _ _ _ h2)
  case dload_n n =>
    dsimp only [mg_chk1] at hc
    simp only [Bool.and_eq_true, decide_eq_true_eq, Nat.beq_eq] at hc
    dsimp only [mg_step] at h
    obtain rfl := hc.2
    obtain ⟨v, hv, h⟩ := mg_getS h
    rcases v with x | x | x | x | x <;> first | exact h.elim | skip
    exact gs_dload_n hx hb hc.1 hv hd (hK _ _ _ _ _ h)
  case dload i =>
    dsimp only [mg_chk1] at hc
    simp only [Bool.and_eq_true, decide_eq_true_eq, Nat.beq_eq] at hc
    dsimp only [mg_step] at h
    obtain rfl := hc.2
    obtain ⟨v, hv, h2⟩ := mg_getS h
    rcases v with x | x | x | x | x <;> first | exact h2.elim | skip
    obtain ⟨rfl, -⟩ := hc
    exact gs_dload hx hb hv hd (hK _ _ _ _ _ h2)
  case istore_n n =>
    dsimp only [mg_chk1] at hc
    simp only [Bool.and_eq_true, decide_eq_true_eq, Nat.beq_eq] at hc
    dsimp only [mg_step] at h
    obtain rfl := hc.2
    split at h <;> first | exact h.elim | skip
    exact gs_istore_n hx hb hc.1.1 hc.1.2 hd (hK _ _ _ _ _ (mg_remS h))
  case istore i =>
    dsimp only [mg_chk1] at hc
    simp only [Bool.and_eq_true, decide_eq_true_eq, Nat.beq_eq] at hc
    dsimp only [mg_step] at h
    obtain rfl := hc.2
    split at h <;> first | exact h.elim | skip
    obtain ⟨⟨rfl, hn⟩, -⟩ := hc
    exact gs_istore hx hb hn hd (hK _ _ _ _ _ (mg_remS h))
  case astore_n n =>
    dsimp only [mg_chk1] at hc
    simp only [Bool.and_eq_true, decide_eq_true_eq, Nat.beq_eq] at hc
    dsimp only [mg_step] at h
    obtain rfl := hc.2
    split at h <;> first | exact h.elim | skip
    exact gs_astore_n hx hb hc.1.1 hc.1.2 hd (hK _ _ _ _ _ (mg_remS h))
  case astore i =>
    dsimp only [mg_chk1] at hc
    simp only [Bool.and_eq_true, decide_eq_true_eq, Nat.beq_eq] at hc
    dsimp only [mg_step] at h
    obtain rfl := hc.2
    split at h <;> first | exact h.elim | skip
    obtain ⟨⟨rfl, hn⟩, -⟩ := hc
    exact gs_astore hx hb hn hd (hK _ _ _ _ _ (mg_remS h))
  case lstore_n n =>
    dsimp only [mg_chk1] at hc
    simp only [Bool.and_eq_true, decide_eq_true_eq, Nat.beq_eq] at hc
    dsimp only [mg_step] at h
    obtain rfl := hc.2
    split at h <;> first | exact h.elim | skip
    exact gs_lstore_n hx hb hc.1.1 hc.1.2 hd (hK _ _ _ _ _ (mg_remS h))
  case lstore i =>
    dsimp only [mg_chk1] at hc
    simp only [Bool.and_eq_true, decide_eq_true_eq, Nat.beq_eq] at hc
    dsimp only [mg_step] at h
    obtain rfl := hc.2
    split at h <;> first | exact h.elim | skip
    obtain ⟨⟨rfl, hn⟩, -⟩ := hc
    exact gs_lstore hx hb hn hd (hK _ _ _ _ _ (mg_remS h))
  case dstore_n n =>
    dsimp only [mg_chk1] at hc
    simp only [Bool.and_eq_true, decide_eq_true_eq, Nat.beq_eq] at hc
    dsimp only [mg_step] at h
    obtain rfl := hc.2
    split at h <;> first | exact h.elim | skip
    exact gs_dstore_n hx hb hc.1.1 hc.1.2 hd (hK _ _ _ _ _ (mg_remS h))
  case dstore i =>
    dsimp only [mg_chk1] at hc
    simp only [Bool.and_eq_true, decide_eq_true_eq, Nat.beq_eq] at hc
    dsimp only [mg_step] at h
    obtain rfl := hc.2
    split at h <;> first | exact h.elim | skip
    obtain ⟨⟨rfl, hn⟩, -⟩ := hc
    exact gs_dstore hx hb hn hd (hK _ _ _ _ _ (mg_remS h))
  case iinc i n =>
    dsimp only [mg_chk1] at hc
    simp only [Bool.and_eq_true, decide_eq_true_eq, Nat.beq_eq] at hc
    dsimp only [mg_step] at h
    obtain rfl := hc.2
    obtain ⟨⟨rfl, hn⟩, -⟩ := hc
    obtain ⟨v, hv, h⟩ := mg_getS h
    rcases v with x | x | x | x | x <;> first | exact h.elim | skip
    exact gs_iinc hx hb hv h.1 hn hd (hK _ _ _ _ _ (mg_remS h.2))
  case iadd =>
    dsimp only [mg_chk1] at hc
    simp only [Bool.and_eq_true, decide_eq_true_eq, Nat.beq_eq] at hc
    dsimp only [mg_step] at h
    subst hc
    split at h <;> first | exact h.elim | skip
    exact gs_iadd hx hb h.1 hd (hK _ _ _ _ _ h.2)
  case isub =>
    dsimp only [mg_chk1] at hc
    simp only [Bool.and_eq_true, decide_eq_true_eq, Nat.beq_eq] at hc
    dsimp only [mg_step] at h
    subst hc
    split at h <;> first | exact h.elim | skip
    exact gs_isub hx hb h.1 hd (hK _ _ _ _ _ h.2)
  case imul =>
    dsimp only [mg_chk1] at hc
    simp only [Bool.and_eq_true, decide_eq_true_eq, Nat.beq_eq] at hc
    dsimp only [mg_step] at h
    subst hc
    split at h <;> first | exact h.elim | skip
    exact gs_imul hx hb h.1 hd (hK _ _ _ _ _ h.2)
  case idiv =>
    dsimp only [mg_chk1] at hc
    simp only [Bool.and_eq_true, decide_eq_true_eq, Nat.beq_eq] at hc
    dsimp only [mg_step] at h
    subst hc
    split at h <;> first | exact h.elim | skip
    exact gs_idiv hx hb h.1 hd (hK _ _ _ _ _ h.2)
  case irem =>
    dsimp only [mg_chk1] at hc
    simp only [Bool.and_eq_true, decide_eq_true_eq, Nat.beq_eq] at hc
    dsimp only [mg_step] at h
    subst hc
    split at h <;> first | exact h.elim | skip
    exact gs_irem hx hb h.1 hd (hK _ _ _ _ _ h.2)
  case iand =>
    dsimp only [mg_chk1] at hc
    simp only [Bool.and_eq_true, decide_eq_true_eq, Nat.beq_eq] at hc
    dsimp only [mg_step] at h
    subst hc
    split at h <;> first | exact h.elim | skip
    exact gs_iand hx hb h.1 hd (hK _ _ _ _ _ h.2)
  case l2i =>
    dsimp only [mg_chk1] at hc
    simp only [Bool.and_eq_true, decide_eq_true_eq, Nat.beq_eq] at hc
    dsimp only [mg_step] at h
    subst hc
    split at h <;> first | exact h.elim | skip
    exact gs_l2i hx hb h.1 hd (hK _ _ _ _ _ h.2)
  case ladd =>
    dsimp only [mg_chk1] at hc
    simp only [Bool.and_eq_true, decide_eq_true_eq, Nat.beq_eq] at hc
    dsimp only [mg_step] at h
    subst hc
    split at h <;> first | exact h.elim | skip
    exact gs_ladd hx hb h.1 hd (hK _ _ _ _ _ h.2)
  case lsub =>
    dsimp only [mg_chk1] at hc
    simp only [Bool.and_eq_true, decide_eq_true_eq, Nat.beq_eq] at hc
    dsimp only [mg_step] at h
    subst hc
    split at h <;> first | exact h.elim | skip
    exact gs_lsub hx hb h.1 hd (hK _ _ _ _ _ h.2)
  case f2d =>
    dsimp only [mg_chk1] at hc
    simp only [Bool.and_eq_true, decide_eq_true_eq, Nat.beq_eq] at hc
    dsimp only [mg_step] at h
    subst hc
    split at h <;> first | exact h.elim | skip
    exact gs_f2d hx hb h.1 hd (hK _ _ _ _ _ h.2)
  case fdiv =>
    dsimp only [mg_chk1] at hc
    simp only [Bool.and_eq_true, decide_eq_true_eq, Nat.beq_eq] at hc
    dsimp only [mg_step] at h
    subst hc
    split at h <;> first | exact h.elim | skip
    exact gs_fdiv hx hb h.1 hd (hK _ _ _ _ _ h.2)
  case ddiv =>
    dsimp only [mg_chk1] at hc
    simp only [Bool.and_eq_true, decide_eq_true_eq, Nat.beq_eq] at hc
    dsimp only [mg_step] at h
    subst hc
    split at h <;> first | exact h.elim | skip
    exact gs_ddiv hx hb h.1 hd (hK _ _ _ _ _ h.2)
  case i2c =>
    dsimp only [mg_chk1] at hc
    simp only [Bool.and_eq_true, decide_eq_true_eq, Nat.beq_eq] at hc
    dsimp only [mg_step] at h
    subst hc
    split at h <;> first | exact h.elim | skip
    exact gs_i2c hx hb hd (hK _ _ _ _ _ h)
  case i2l =>
    dsimp only [mg_chk1] at hc
    simp only [Bool.and_eq_true, decide_eq_true_eq, Nat.beq_eq] at hc
    dsimp only [mg_step] at h
    subst hc
    split at h <;> first | exact h.elim | skip
    exact gs_i2l hx hb hd (hK _ _ _ _ _ h)
  case lcmp =>
    dsimp only [mg_chk1] at hc
    simp only [Bool.and_eq_true, decide_eq_true_eq, Nat.beq_eq] at hc
    dsimp only [mg_step] at h
    subst hc
    split at h <;> first | exact h.elim | skip
    exact gs_lcmp hx hb hd (hK _ _ _ _ _ h)
  case i2f =>
    dsimp only [mg_chk1] at hc
    simp only [Bool.and_eq_true, decide_eq_true_eq, Nat.beq_eq] at hc
    dsimp only [mg_step] at h
    subst hc
    split at h <;> first | exact h.elim | skip
    exact gs_i2f hx hb hd (hK _ _ _ _ _ h)
  case i2d =>
    dsimp only [mg_chk1] at hc
    simp only [Bool.and_eq_true, decide_eq_true_eq, Nat.beq_eq] at hc
    dsimp only [mg_step] at h
    subst hc
    split at h <;> first | exact h.elim | skip
    exact gs_i2d hx hb hd (hK _ _ _ _ _ h)
  case dcmp op =>
    dsimp only [mg_chk1] at hc
    simp only [Bool.and_eq_true, decide_eq_true_eq, Nat.beq_eq] at hc
    dsimp only [mg_step] at h
    subst hc
    split at h <;> first | exact h.elim | skip
    exact gs_dcmp hx hb hd (hK _ _ _ _ _ h)
  case dup =>
    dsimp only [mg_chk1] at hc
    simp only [Bool.and_eq_true, decide_eq_true_eq, Nat.beq_eq] at hc
    dsimp only [mg_step] at h
    subst hc
    split at h <;> first | exact h.elim | skip
    · exact gs_dupi hx hb hd (hK _ _ _ _ _ h)
    · exact gs_dupa hx hb hd (hK _ _ _ _ _ h)
  case dup2 =>
    dsimp only [mg_chk1] at hc
    simp only [Bool.and_eq_true, decide_eq_true_eq, Nat.beq_eq] at hc
    dsimp only [mg_step] at h
    subst hc
    split at h <;> first | exact h.elim | skip
    exact gs_dup2 hx hb hd (hK _ _ _ _ _ h)
  case pop =>
    dsimp only [mg_chk1] at hc
    simp only [Bool.and_eq_true, decide_eq_true_eq, Nat.beq_eq] at hc
    dsimp only [mg_step] at h
    subst hc
    split at h <;> first | exact h.elim | skip
    · exact gs_popi hx hb hd (hK _ _ _ _ _ h)
    · exact gs_popa hx hb hd (hK _ _ _ _ _ h)
  case ifCond op off =>
    dsimp only [mg_chk1] at hc
    simp only [Bool.and_eq_true, decide_eq_true_eq, Nat.beq_eq] at hc
    dsimp only [mg_step] at h
    obtain rfl := hc.2
    split at h <;> first | exact h.elim | skip
    exact gs_ifc hx hb hc.1 hd (mg_ifM h (fun h => hK _ _ _ _ _ h) (fun h => hK _ _ _ _ _ h))
  case if_icmp op off =>
    dsimp only [mg_chk1] at hc
    simp only [Bool.and_eq_true, decide_eq_true_eq, Nat.beq_eq] at hc
    dsimp only [mg_step] at h
    obtain rfl := hc.2
    split at h <;> first | exact h.elim | skip
    exact gs_icmp hx hb hc.1 hd (mg_ifM h (fun h => hK _ _ _ _ _ h) (fun h => hK _ _ _ _ _ h))
  case goto off =>
    dsimp only [mg_chk1] at hc
    simp only [Bool.and_eq_true, decide_eq_true_eq, Nat.beq_eq] at hc
    dsimp only [mg_step] at h
    obtain rfl := hc.2
    exact gs_goto hx hb hc.1 hd (hK _ _ _ _ _ h)
  case tableswitch df lo hi offs =>
    dsimp only [mg_chk1] at hc
    simp only [Bool.and_eq_true, decide_eq_true_eq, Nat.beq_eq] at hc
    dsimp only [mg_step] at h
    split at h <;> first | exact h.elim | skip
    exact gs_tsw hx hb hc.1 hc.2.1 hc.2.2.1 hc.2.2.2.1 hc.2.2.2.2 hd (mg_swM h.1 (fun t h => hK _ _ _ _ _ h)) (fun q => hK _ _ _ _ _ (h.2 q))
  case getfield i =>
    dsimp only [mg_chk1] at hc
    simp only [Bool.and_eq_true, decide_eq_true_eq, Nat.beq_eq] at hc
    dsimp only [mg_step] at h
    obtain rfl := hc.2
    split at h <;> first | exact h.elim | skip
    obtain ⟨⟨c1, c2, c3, c4, rfl, c6⟩, -⟩ := hc
    obtain ⟨hr, h⟩ := h
    cases hcc : Nat.beq (mg_tc a b) 1 with
    | true =>
      rw [hcc] at h
      exact gs_getf hx hb hts hown hKK c2 c3 c4 (mg_fpT c1) hr hd (v := .inr (.inl (gr M _ b))) (by rw [mg_fv_r (Nat.eq_of_beq_eq_true hcc), mg_rf h.1]; rfl) (fun _ => trivial) (hK _ _ _ _ _ h.2)
    | false =>
      rw [hcc] at h
      exact gs_getf hx hb hts hown hKK c2 c3 c4 (mg_fpT c1) hr hd (v := .inl (gi M _ b)) (mg_fv_i (fun q => by rw [q] at hcc; exact absurd hcc (by decide)) c6) (fun q => q) (hK _ _ _ _ _ h)
  case putfield i =>
    dsimp only [mg_chk1] at hc
    simp only [Bool.and_eq_true, decide_eq_true_eq, Nat.beq_eq] at hc
    dsimp only [mg_step] at h
    obtain rfl := hc.2
    obtain ⟨⟨⟨c1, c2, c3, c4, rfl, c6⟩, c7⟩, -⟩ := hc
    have hfin : (mg_F a b).2.2.2 = false ∨ ((mg_F a b).2.2.2 = true ∧ mg_R o = mg_R a ∧ meth.name = "<init>") := c7.imp id fun q => ⟨q.1, by rw [q.2.2], hini q.2.1⟩
    split at h <;> first | exact h.elim | skip
    · obtain ⟨hr, h⟩ := h
      refine mg_putI hx hb hts hown hKK c2 c3 c4 (mg_fpT c1) hr hd hfin c6 (B := B) ?_
      cases hcc : Nat.beq (mg_tc a b) 2 with
      | true =>
        rw [hcc] at h
        exact ⟨fun _ => h.1, fun q => (by rw [q] at hcc; exact absurd hcc (by decide)), hK _ _ _ _ _ h.2⟩
      | false =>
        rw [hcc] at h
        cases hc0 : Nat.beq (mg_tc a b) 0 with
        | true =>
          rw [hc0] at h
          exact ⟨fun q => (by rw [q] at hcc; exact absurd hcc (by decide)), fun q => (by rw [q] at hc0; exact absurd hc0 (by decide)), hK _ _ _ _ _ h⟩
        | false => rw [hc0] at h; exact h.elim
    · obtain ⟨hr, h⟩ := h
      cases hcc : Nat.beq (mg_tc a b) 1 with
      | true =>
        rw [hcc] at h
        exact mg_putR hx hb hts hown hKK c2 c3 c4 (mg_fpT c1) hr hd hfin (Nat.eq_of_beq_eq_true hcc) h.1 (hK _ _ _ _ _ h.2)
      | false => rw [hcc] at h; exact h.elim
  case iaload =>
    dsimp only [mg_chk1] at hc
    simp only [Bool.and_eq_true, decide_eq_true_eq, Nat.beq_eq] at hc
    dsimp only [mg_step] at h
    obtain rfl := hc.2
    split at h <;> first | exact h.elim | skip
    rcases hc.1 with rfl | rfl
    · exact gs_iald hx hb hKK h.1 hd (hK _ _ _ _ _ h.2)
    · exact gs_ialdS hx hb h.1 hd (hK _ _ _ _ _ h.2)
  case aaload =>
    dsimp only [mg_chk1] at hc
    simp only [Bool.and_eq_true, decide_eq_true_eq, Nat.beq_eq] at hc
    dsimp only [mg_step] at h
    subst hc
    split at h <;> first | exact h.elim | skip
    exact gs_aald hx hb hKK h.1 h.2.1 hd (hK _ _ _ _ _ h.2.2)
  case laload =>
    dsimp only [mg_chk1] at hc
    simp only [Bool.and_eq_true, decide_eq_true_eq, Nat.beq_eq] at hc
    dsimp only [mg_step] at h
    subst hc
    split at h <;> first | exact h.elim | skip
    exact gs_lald hx hb hKK h.1 hd (hK _ _ _ _ _ h.2)
  case daload =>
    dsimp only [mg_chk1] at hc
    simp only [Bool.and_eq_true, decide_eq_true_eq, Nat.beq_eq] at hc
    dsimp only [mg_step] at h
    subst hc
    split at h <;> first | exact h.elim | skip
    exact gs_dald hx hb hKK h.1 hd (hK _ _ _ _ _ h.2)
  case iastore =>
    dsimp only [mg_chk1] at hc
    simp only [Bool.and_eq_true, decide_eq_true_eq, Nat.beq_eq] at hc
    dsimp only [mg_step] at h
    subst hc
    split at h <;> first | exact h.elim | skip
    exact gs_iast hx hb hKK h.1 hd (hK _ _ _ _ _ h.2)
  case aastore =>
    dsimp only [mg_chk1] at hc
    simp only [Bool.and_eq_true, decide_eq_true_eq, Nat.beq_eq] at hc
    dsimp only [mg_step] at h
    subst hc
    split at h <;> first | exact h.elim | skip
    exact gs_aast hx hb hKK h.1 h.2.1 hd (hK _ _ _ _ _ h.2.2)
  case lastore =>
    dsimp only [mg_chk1] at hc
    simp only [Bool.and_eq_true, decide_eq_true_eq, Nat.beq_eq] at hc
    dsimp only [mg_step] at h
    subst hc
    split at h <;> first | exact h.elim | skip
    exact gs_last hx hb hKK h.1 hd (hK _ _ _ _ _ h.2)
  case dastore =>
    dsimp only [mg_chk1] at hc
    simp only [Bool.and_eq_true, decide_eq_true_eq, Nat.beq_eq] at hc
    dsimp only [mg_step] at h
    subst hc
    split at h <;> first | exact h.elim | skip
    exact gs_dast hx hb hKK h.1 hd (hK _ _ _ _ _ h.2)
  case arraylength =>
    dsimp only [mg_chk1] at hc
    simp only [Bool.and_eq_true, decide_eq_true_eq, Nat.beq_eq] at hc
    dsimp only [mg_step] at h
    obtain rfl := hc.2
    split at h <;> first | exact h.elim | skip
    exact gs_alen hx hb hKK (by rw [h.1]; exact hc.1) h.2.1 hd (hK _ _ _ _ _ h.2.2)
  case newarray t =>
    dsimp only [mg_chk1] at hc
    simp only [Bool.and_eq_true, decide_eq_true_eq, Nat.beq_eq] at hc
    dsimp only [mg_step] at h
    obtain rfl := hc.2
    split at h <;> first | exact h.elim | skip
    exact gs_newa hx hb hts hKK hAC hAS hc.1 (mg_arrT hc.1) h.1 hd (hK _ _ _ _ _ h.2)
  case anewarray i =>
    dsimp only [mg_chk1] at hc
    simp only [Bool.and_eq_true, decide_eq_true_eq, Nat.beq_eq] at hc
    dsimp only [mg_step] at h
    obtain rfl := hc.2
    split at h <;> first | exact h.elim | skip
    exact gs_anew hx hb hts hown hKK hAC hAS (mg_cpT hc.1) hWw.2.2.2.2.2 h.1 hd (hK _ _ _ _ _ h.2)
  case new i =>
    dsimp only [mg_chk1] at hc
    rw [Bool.and_eq_true, Nat.beq_eq] at hc
    dsimp only [mg_step] at h
    obtain rfl : len = 3 := hc.2
    cases ha : Nat.blt a 100 with
    | true =>
      rw [ha] at h hc
      simp only [cond_true, decide_eq_true_eq] at hc
      exact gs_new hx hb hts hown hKK hAC hAS hc.1.2.1 hc.1.2.2 (mg_cpT hc.1.1) (mg_insT hc.1.2.1 hc.1.2.2) (mg_iniT hc.1.2.1 hc.1.2.2) h.1 hd (hK _ _ _ _ _ h.2)
    | false =>
      rw [ha] at h hc
      simp only [cond_false, Bool.and_eq_true, decide_eq_true_eq] at hc
      obtain ⟨⟨⟨⟨c1, c2, c3, c4⟩, c5⟩, c6⟩, -⟩ := hc
      cases hst4 : Nat.ble st.length 4 with
      | false => rw [hst4] at h; exact h.elim
      | true =>
      rw [hst4] at h
      refine HT c1 c2 c3 c4 hd c5 ?_ ⟨h.1, Nat.le_of_ble_eq_true hst4⟩ h.2
      cases hd0 : Nat.beq d 0 with
      | true =>
        rw [hd0] at c6
        simp only [cond_true, decide_eq_true_eq] at c6
        exact Or.inl c6
      | false =>
        rw [hd0] at c6
        simp only [cond_false, decide_eq_true_eq] at c6
        exact Or.inr c6
  case invokevirtual i =>
    dsimp only [mg_chk1] at hc
    simp only [Bool.and_eq_true, decide_eq_true_eq, Nat.beq_eq] at hc
    dsimp only [mg_step] at h
    obtain rfl := hc.2
    obtain ⟨⟨c1, c2⟩, -⟩ := hc
    cases hq : mg_mt[a - 1]? with
    | none => rw [hq] at c2; cases c2
    | some q =>
      rw [hq] at c2
      simp only [decide_eq_true_eq] at c2
      obtain ⟨d1, d2, d3, d4, d5, d6, d7⟩ := c2
      obtain ⟨xs, rest, e1, rfl, h9⟩ := mg_popS h; replace h := h9; clear h9
      rw [List.append_nil] at h
      split at h <;> first | exact h.elim | skip
      next r As hxs =>
      obtain ⟨hr, h⟩ := h
      have hxs2 : xs = As.reverse ++ [.inr (.inl r)] := by rw [← List.reverse_reverse xs, hxs, List.reverse_cons]
      have hAs : As.length = b := by rw [hxs2] at e1; simp at e1; exact e1
      obtain ⟨hB, N, X, hlen, hM, hN, hX⟩ := mg_buyS h
      rw [hxs2, List.append_assoc]
      rw [hxs] at hM
      exact gs_callV Cx hq (mg_mpT c1 hq) d1 (by omega) (by omega) d5 (by omega) (by rw [hr]; exact d2.symm) (by omega) hlen hM hd (fun v M' hv => hK _ _ _ _ _ (by rw [d7]; exact hN v M' hv)) (fun x M' x1 x6 hx9 H1 locs1 cells slots ls9 q0 ce g1 g2 g3 g4 g5 g6 g7 g8 g9 => HX (B := B - c9) x1 x6 (mg_handM (hX x M' hx9) (fun h => fun h9 q => hK _ _ _ _ _ (h9 q))) g1 g2 g3 g4 (by rw [d7] at g5; exact g5) (by rw [d7] at g6; exact g6) g7 g8 g9)
  case invokespecial i =>
    dsimp only [mg_chk1] at hc
    rw [Bool.and_eq_true, Nat.beq_eq] at hc
    dsimp only [mg_step] at h
    obtain rfl : len = 3 := hc.2
    cases ha : Nat.beq a 0 with
    | true =>
      rw [ha] at h hc
      simp only [cond_true, decide_eq_true_eq] at hc h
      cases hlen : Nat.blt 7 st.length with
      | true => rw [hlen] at h; exact h.elim
      | false =>
        rw [hlen] at h
        have hlen : st.length ≤ 7 := by
          rcases Nat.lt_or_ge 7 st.length with z | z
          · rw [show Nat.blt 7 st.length = true from Nat.ble_eq_true_of_le z] at hlen; cases hlen
          · exact z
        simp only [cond_false] at h
        split at h <;> first | exact h.elim | skip
        simp only [List.length_cons] at hlen
        exact gs_oinit Cx hc.1.2 (mg_lpT hc.1.1) mg_oi1 mg_oi2 (by omega) hd (hK _ _ _ _ _ h)
    | false =>
      rw [ha] at h hc
      simp only [cond_false] at hc h
      obtain ⟨c2, -⟩ := hc
      cases hq : mg_mt[a - 1]? with
      | none => rw [hq] at c2; cases c2
      | some q =>
        rw [hq] at c2
        simp only [decide_eq_true_eq] at c2
        obtain ⟨d1, d2, d5, d6, d7, d8⟩ := c2
        obtain ⟨xs, rest, e1, rfl, h9⟩ := mg_popS h; replace h := h9; clear h9
        rw [List.append_nil] at h
        split at h <;> first | exact h.elim | skip
        next r As hxs =>
          obtain ⟨hB, N, X, hlen, hM, hN, hX⟩ := mg_buyS h
          have hxs2 : xs = As.reverse ++ [.inr (.inl r)] := by rw [← List.reverse_reverse xs, hxs, List.reverse_cons]
          have hAs : As.length = b := by rw [hxs2] at e1; simp at e1; exact e1
          rw [hxs2, List.append_assoc]
          rw [hxs] at hM
          exact gs_callI Cx hq (d8.imp (fun z => mg_mpT z hq) id) d1 d2 d5 (by omega) (by omega) hlen hM hd (fun v M' hv => hK _ _ _ _ _ (by rw [d7]; exact hN v M' hv)) (fun x M' x1 x6 hx9 H1 locs1 cells slots ls9 q0 ce g1 g2 g3 g4 g5 g6 g7 g8 g9 => HX (B := B - c9) x1 x6 (mg_handM (hX x M' hx9) (fun h => fun h9 q => hK _ _ _ _ _ (h9 q))) g1 g2 g3 g4 (by rw [d7] at g5; exact g5) (by rw [d7] at g6; exact g6) g7 g8 g9)
  case invokestatic i =>
    dsimp only [mg_chk1] at hc
    rw [Bool.and_eq_true, Nat.beq_eq] at hc
    dsimp only [mg_step] at h
    obtain rfl : len = 3 := hc.2
    cases ha : Nat.blt a 1000 with
    | true =>
      rw [ha] at h hc
      simp only [cond_true] at hc h
      obtain ⟨c2, -⟩ := hc
      cases hq : mg_mt[a - 1]? with
      | none => rw [hq] at c2; cases c2
      | some q =>
        rw [hq] at c2
        simp only [decide_eq_true_eq] at c2
        obtain ⟨d2, d5, d6, d7, d8⟩ := c2
        obtain ⟨xs, rest, e1, rfl, h9⟩ := mg_popS h; replace h := h9; clear h9
        rw [List.append_nil] at h
        obtain ⟨hB, N, X, hlen, hM, hN, hX⟩ := mg_buyS h
        rw [← List.reverse_reverse xs]
        exact gs_callS Cx hq (mg_mpT d8 hq) d2 d5 (by rw [List.length_reverse]; omega) (by omega) hlen hM hd (fun v M' hv => hK _ _ _ _ _ (by rw [d7]; exact hN v M' hv)) (fun x M' x1 x6 hx9 H1 locs1 cells slots ls9 q0 ce g1 g2 g3 g4 g5 g6 g7 g8 g9 => HX (B := B - c9) x1 x6 (mg_handM (hX x M' hx9) (fun h => fun h9 q => hK _ _ _ _ _ (h9 q))) g1 g2 g3 g4 (by rw [d7] at g5; exact g5) (by rw [d7] at g6; exact g6) g7 g8 g9)
    | false =>
      rw [ha] at h hc
      simp only [cond_false, decide_eq_true_eq] at hc h
      obtain ⟨⟨c1, c2, c3⟩, -⟩ := hc
      cases hlen : Nat.blt 9 st.length with
      | true => rw [hlen] at h; exact h.elim
      | false =>
        rw [hlen] at h
        have hlen : st.length ≤ 9 := by
          rcases Nat.lt_or_ge 9 st.length with z | z
          · rw [show Nat.blt 9 st.length = true from Nat.ble_eq_true_of_le z] at hlen; cases hlen
          · exact z
        rcases c3 with rfl | rfl | rfl
        · rw [show Nat.beq 1000 1002 = false from rfl] at h
          simp only [cond_false] at h
          split at h <;> first | exact h.elim | skip
          simp only [List.length_cons] at hlen
          exact gs_max Cx c2 (mg_lpT c1) mg_mx1 mg_mx2 mg_mx3 (by omega) hd (hK _ _ _ _ _ h)
        · rw [show Nat.beq 1001 1002 = false from rfl] at h
          simp only [cond_false] at h
          split at h <;> first | exact h.elim | skip
          simp only [List.length_cons] at hlen
          exact gs_min Cx c2 (mg_lpT c1) mg_mi1 mg_mx2 mg_mi3 (by omega) hd (hK _ _ _ _ _ h)
        · rw [show Nat.beq 1002 1002 = true from rfl] at h
          simp only [cond_true] at h
          split at h <;> first | exact h.elim | skip
          obtain ⟨⟨rfl, rfl, h1, h2, h3, h4, h5⟩, h⟩ := h
          simp only [List.length_cons] at hlen
          exact gs_copy hx hb hml hts hown hKK (by omega) (by omega) (mg_lpT c1) mg_ac1 mg_ac2 mg_ac3 ⟨h1, h2, h3, h4, h5⟩ (by omega) hd (hK _ _ _ _ _ h)
  case ireturn =>
    dsimp only [mg_chk1] at hc
    simp only [Bool.and_eq_true, decide_eq_true_eq, Nat.beq_eq] at hc
    dsimp only [mg_step] at h
    obtain rfl := hc.2
    split at h <;> first | exact h.elim | skip
    refine HR hd ?_
    cases hrk : Nat.beq C.2.2.2.1.1 2 with
    | true =>
      rw [hrk] at h
      exact ⟨Or.inr ⟨Nat.eq_of_beq_eq_true hrk, h.1⟩, h.2⟩
    | false =>
      rw [hrk] at h
      refine ⟨Or.inl ?_, h⟩
      rcases hc.1 with z | z
      · exact z
      · rw [z] at hrk; cases hrk
  case areturn =>
    dsimp only [mg_chk1] at hc
    simp only [Bool.and_eq_true, decide_eq_true_eq, Nat.beq_eq] at hc
    dsimp only [mg_step] at h
    obtain rfl := hc.2
    split at h <;> first | exact h.elim | skip
    exact HR hd ⟨hc.1, h⟩
  case lreturn =>
    dsimp only [mg_chk1] at hc
    simp only [Bool.and_eq_true, decide_eq_true_eq, Nat.beq_eq] at hc
    dsimp only [mg_step] at h
    obtain rfl := hc.2
    split at h <;> first | exact h.elim | skip
    exact HR hd ⟨hc.1, h⟩
  case freturn =>
    dsimp only [mg_chk1] at hc
    simp only [Bool.and_eq_true, decide_eq_true_eq, Nat.beq_eq] at hc
    dsimp only [mg_step] at h
    obtain rfl := hc.2
    split at h <;> first | exact h.elim | skip
    exact HR hd ⟨hc.1, h⟩
  case dreturn =>
    dsimp only [mg_chk1] at hc
    simp only [Bool.and_eq_true, decide_eq_true_eq, Nat.beq_eq] at hc
    dsimp only [mg_step] at h
    obtain rfl := hc.2
    split at h <;> first | exact h.elim | skip
    exact HR hd ⟨hc.1, h⟩
  case return_ =>
    dsimp only [mg_chk1] at hc
    simp only [Bool.and_eq_true, decide_eq_true_eq, Nat.beq_eq] at hc
    dsimp only [mg_step] at h
    obtain rfl := hc.2
    split at h <;> first | exact h.elim | skip
    exact HR hd ⟨hc.1, h⟩
  all_goals exact h.elim
end MGW
end
section
/-! the walk of a whole method; a method's contract out of its walk -/
theorem mg_seekS {l : List mg_E} {pc : Nat} {k : Nat → Instr → Nat → Nat → Nat → Nat → Nat → Prop} (h : mg_seek l pc k) : ∃ e ∈ l, e.1 = pc ∧ k e.2.1 e.2.2.1.1 e.2.2.1.2 e.2.2.2.1 e.2.2.2.2.1 e.2.2.2.2.2.1 e.2.2.2.2.2.2 := by
  induction l with
  | nil => exact h.elim
  | cons e l ih =>
    obtain ⟨pc', nn, ⟨i, len⟩, a, b, c, d⟩ := e
    unfold mg_seek at h
    cases he : Nat.beq pc' pc with
    | true => rw [he] at h; exact ⟨_, List.mem_cons_self, Nat.eq_of_beq_eq_true he, h⟩
    | false =>
      rw [he] at h
      obtain ⟨e', h1, h2⟩ := ih h
      exact ⟨e', List.mem_cons_of_mem _ h1, h2⟩
theorem mg_cutS {l : List (Nat × List Nat)} {pc : Nat} {k : List Nat → Prop} {n : Prop} (h : mg_cut l pc k n) : (∃ live, k live) ∨ n := by
  induction l with
  | nil => exact Or.inr h
  | cons q l ih =>
    unfold mg_cut at h
    cases he : Nat.beq q.1 pc with
    | true => rw [he] at h; exact Or.inl ⟨_, h⟩
    | false => rw [he] at h; exact ih h
theorem mg_pickS {is : List Nat} {L : mg_L} {k : mg_L → Prop} (h : mg_pick is L k) : ∃ L', (∀ q ∈ L', q ∈ L) ∧ k L' := by
  induction is generalizing k with
  | nil => exact ⟨[], fun q hq => (nomatch hq), h⟩
  | cons i is ih =>
    obtain ⟨v, hv, h⟩ := mg_getS h
    obtain ⟨L', h1, h2⟩ := ih h
    exact ⟨(i, v) :: L', fun q hq => (List.mem_cons.mp hq).elim (fun e => e ▸ hv) (h1 q), h2⟩
theorem mg_Fr.sub {ls : Array Slot} {nL : Nat} {L L' : mg_L} (h : mg_Fr ls nL L) (hs : ∀ q ∈ L', q ∈ L) : mg_Fr ls nL L' :=
  ⟨⟨h.1.1, h.1.2.1, fun q hq => by obtain ⟨q0, h0, rfl⟩ := List.mem_map.mp hq; exact h.1.2.2 _ (List.mem_map.mpr ⟨q0, hs _ h0, rfl⟩)⟩, fun q hq => h.2 q (hs q hq)⟩
theorem mg_handN {hs : List (Nat × Nat × Nat × Nat)} {pc x : Nat} {k : Nat → Prop} {n n' : Prop} (h : mg_hand hs pc x k n) (hn : n → n') : mg_hand hs pc x k n' := by
  induction hs with
  | nil => exact hn h
  | cons q hs ih =>
    obtain ⟨a, b, t, c⟩ := q
    unfold mg_hand at h ⊢
    cases hb : ((Nat.ble a pc && Nat.blt pc b) && Nat.beq c x) with
    | true => rw [hb] at h; exact h
    | false => rw [hb] at h; exact ih h
theorem mg_tabEq : ∀ (hs hh : List (Nat × Nat × Nat × Nat)), hs.length = hh.length → (∀ z ∈ hs.zip hh, z.1.1 = z.2.1 ∧ z.1.2.1 = z.2.2.1 ∧ z.1.2.2.1 = z.2.2.2.1) → tableOf hh = (hs.zip (hh.map fun z => z.2.2.2)).map (fun z => (⟨z.1.1, z.1.2.1, z.1.2.2.1, z.2⟩ : ExceptionTableEntry))
  | [], [], _, _ => rfl
  | a :: hs, b :: hh, h, hz => by
    have ih := mg_tabEq hs hh (Nat.succ.inj h) (fun z hz9 => hz z (List.mem_cons_of_mem _ hz9))
    obtain ⟨h1, h2, h3⟩ := hz (a, b) List.mem_cons_self
    dsimp only at h1 h2 h3
    unfold tableOf at ih ⊢
    rw [List.map_cons, List.map_cons, List.zip_cons_cons, List.map_cons, ih, h1, h2, h3]
  | [], _ :: _, h, _ => by cases h
  | _ :: _, [], h, _ => by cases h
section MGM
variable {p : Program} {l : Launch} {e : Env} {R : Room} {s : State} {m : MethodId} {args : Array Value} {below : List Frame} {meth : Method} {c : Code} {Q : State → Prop} {D : mg_D} {nL AC AS : Nat} {cc : ByteArray} {o dp : Nat} {ini nh : Bool} {C : mg_C}
theorem mg_evS (Cx : mg_cx p l R s m args meth c D nL AC AS cc (mg_R o) dp) (hini : ini = true → meth.name = "<init>") {Q0 : mg_O} {Xo : mg_X}
    (HR : ∀ {pc : Nat} {i : Instr} {L : mg_L} {st : List mg_V} {M : mg_M} {B : Nat}, decode cc pc = .ok (i, 1) → mg_rt C.2.2.2.1.1 i st (fun v => Q0 v M) → mg_G p l e R s m args below meth c Q D nL AC AS pc L st M B)
    (HX : ∀ {x : Nat} {M' : mg_M} {pc : Nat} {L : mg_L} {st : List mg_V} {B : Nat} {H1 : Heap} {locs1 : List Loc} {cells slots : Nat} {ls : Array Slot} {q0 : Nat} {ce : Cell}, 1 ≤ x → x ≤ 6 → mg_hand C.2.2.1 pc x (fun h => ∀ q : Nat, mg_G p l e R s m args below meth c Q D nL AC AS h L [.inr (.inl q)] M' B) (Xo x M') → mg_H D M' s H1 → va_S (mg_A D) s.heap H1 locs1 → mg_Fr ls nL L → (∀ v ∈ st, mg_ok v) → cells + B ≤ AC → slots + 160 * B ≤ AS → H1[q0]? = some ce → ce.vm = .none → s.vm.findClass (mg_ex x) = some ce.cls → vx_W p l e R s m args below meth c H1 locs1 cells slots Q (F0 m pc ls (st.map mg_tv)) q0)
    (HT : ∀ {pc i b c9 k : Nat} {L : mg_L} {st : List mg_V} {M : mg_M} {B : Nat}, nh = true → o = 6 → 6 ≤ dp → (i, b, c9, k) ∈ mg_tp → decode cc pc = .ok (.new i, 3) → decode cc (pc + 3) = .ok (.dup, 1) → (k ≠ 5 ∧ decode cc (pc + 4) = .ok (.ldc b, 2) ∧ decode cc (pc + 6) = .ok (.invokespecial c9, 3) ∧ decode cc (pc + 9) = .ok (.athrow, 1)) ∨ (decode cc (pc + 4) = .ok (.ldc_w b, 3) ∧ decode cc (pc + 7) = .ok (.invokespecial c9, 3) ∧ decode cc (pc + 10) = .ok (.athrow, 1)) → 1 ≤ B ∧ st.length ≤ 4 → (∀ n, nx M ≤ n → Xo k (nxt M n)) → mg_G p l e R s m args below meth c Q D nL AC AS pc L st M B)
    (hall : C.1.all (mg_chkE o ini nL dp nh C cc) = true) :
    ∀ (n : Nat) (fl : Bool) (pc : Nat) (ls : mg_L) (st : List mg_V) (M : mg_M) (B : Nat), mg_ev C (mg_Mt D l) Q0 Xo (mg_G p l e R s m args below meth c Q D nL AC AS) n fl pc ls st M B → mg_G p l e R s m args below meth c Q D nL AC AS pc ls st M B := by
  intro n
  induction n with
  | zero => intro fl pc ls st M B h; exact h.elim
  | succ n ih =>
    intro fl pc ls st M B h
    have go : (mg_seek C.1 pc fun nn i _ a b c9 d => mg_step C (mg_Mt D l) Q0 Xo (fun pc ls st M B => mg_ev C (mg_Mt D l) Q0 Xo (mg_G p l e R s m args below meth c Q D nL AC AS) n true pc ls st M B) pc nn i a b c9 d ls st M B) → mg_G p l e R s m args below meth c Q D nL AC AS pc ls st M B := by
      intro h
      obtain ⟨en, he, rfl, h⟩ := mg_seekS h
      have h9 := List.all_eq_true.mp hall en he
      unfold mg_chkE at h9
      rw [Bool.and_eq_true, Bool.and_eq_true, decide_eq_true_eq, Nat.beq_eq] at h9
      obtain ⟨⟨h1, h2⟩, h3⟩ := h9
      rw [h1] at h
      exact mg_stepS Cx hini HR HX HT (fun pc ls st M B h => ih true pc ls st M B h) h2 h3 h
    unfold mg_ev at h
    cases fl with
    | false => exact go h
    | true =>
      rcases mg_cutS h with ⟨live, h⟩ | h
      · obtain ⟨L', h1, h2⟩ := mg_pickS h
        intro H locs cells slots ls9 hH hS hF
        exact h2 H locs cells slots ls9 hH hS (hF.sub h1)
      · exact go h
end MGM
/-- the locals with which a method begins -/
def mg_ent : Nat → List mg_V → mg_L
  | _, [] => []
  | i, v :: vs => (i, v) :: mg_ent (bif mg_cat2 v then i + 2 else i + 1) vs
theorem mg_entS (i : Nat) (vs : List mg_V) : (mg_ent i vs).map (fun q => (q.1, mg_tv q.2)) = lv_args i (vs.map mg_tv) := by
  induction vs generalizing i with
  | nil => rfl
  | cons v vs ih =>
    have hc := mg_cat v
    unfold mg_ent
    rw [List.map_cons, List.map_cons, lv_args, ih]
    cases hv : mg_cat2 v with
    | true => rw [hv] at hc; rw [if_pos (by rw [hc]; rfl)]; rfl
    | false => rw [hv] at hc; rw [if_neg (by rw [hc]; decide)]; rfl
theorem mg_entO (i : Nat) (vs : List mg_V) (h : ∀ v ∈ vs, mg_ok v) : ∀ q ∈ mg_ent i vs, mg_ok q.2 := by
  induction vs generalizing i with
  | nil => intro q hq; cases hq
  | cons v vs ih =>
    intro q hq
    rcases List.mem_cons.mp hq with rfl | hq
    · exact h _ List.mem_cons_self
    · exact ih _ (fun w hw => h w (List.mem_cons_of_mem _ hw)) q hq
def mg_chkH (o : Nat) (hs hh : List (Nat × Nat × Nat × Nat)) : Bool := Nat.beq hs.length hh.length && (hh.isEmpty || Nat.beq o 9) && (hs.zip hh).all (fun z => Nat.beq z.1.1 z.2.1 && Nat.beq z.1.2.1 z.2.2.1 && Nat.beq z.1.2.2.1 z.2.2.2.1 && decide (1 ≤ z.1.2.2.2 ∧ z.1.2.2.2 ≤ 6 ∧ z.2.2.2.2 ≠ 0 ∧ (z.2.2.2.2, z.1.2.2.2) ∈ mg_hp))
/-- the check of a method's decoded code against the table of methods -/
def mg_chkM (y : Nat) (C : mg_C) : Bool := match mg_mt[y - 1]? with
  | some q => decide (q.1.cls = mg_R C.2.2.2.1.2) && Nat.beq (mg_rk q.2.2.2.1) C.2.2.2.1.1 && mg_chkH C.2.2.2.1.2 C.2.2.1 q.2.2.2.2.1 && decide (mg_N 1 ≤ 4) && C.1.all (mg_chkE C.2.2.2.1.2 (decide (q.1.name = "<init>")) q.2.2.1 q.2.2.2.2.2.1 q.2.2.2.2.1.isEmpty C q.2.1)
  | none => false
def mg_slots (vs : List mg_V) : Nat := (vs.map fun v => bif mg_cat2 v then 2 else 1).sum
theorem mg_slotsS (vs : List mg_V) : (lg_sl (vs.map mg_tv)).length = mg_slots vs := by
  unfold lg_sl mg_slots
  induction vs with
  | nil => rfl
  | cons v vs ih =>
    have hc := mg_cat v
    rw [List.map_cons, List.flatMap_cons, List.length_append, ih, List.map_cons, List.sum_cons]
    cases hv : mg_cat2 v with
    | true => rw [hv] at hc; rw [if_pos (by rw [hc]; rfl)]; rfl
    | false => rw [hv] at hc; rw [if_neg (by rw [hc]; decide)]; rfl
theorem mg_of {D : mg_D} {l : Launch} (hl : l.stackTraces = false) {y : Nat} {C : mg_C} (hok : mg_chkM y C = true) {as : List mg_V} {M : mg_M} {N : mg_O} {X : mg_X} (hsl : ∀ q, mg_mt[y - 1]? = some q → mg_slots as ≤ q.2.2.1)
    (h : ∀ K : mg_K, (∀ pc ls st M B, mg_ev C (mg_Mt D l) N X K 1000 false pc ls st M B → K pc ls st M B) → ∀ q, mg_mt[y - 1]? = some q → K 0 (mg_ent 0 as) [] M q.2.2.2.2.2.2.1) : mg_Mt D l y as M N X := by
  unfold mg_chkM at hok
  cases hq : mg_mt[y - 1]? with
  | none => rw [hq] at hok; cases hok
  | some q =>
    rw [hq] at hok
    simp only [Bool.and_eq_true, decide_eq_true_eq, Nat.beq_eq] at hok
    obtain ⟨⟨⟨⟨c1, c2⟩, c3⟩, -⟩, c4⟩ := hok
    have hqok := mg_mok q (List.mem_of_getElem? hq)
    have hsl1 := hsl q hq
    refine ⟨q, hq, ?_⟩
    have body : ∀ (p : Program) (e : Env) (s : State) (m : MethodId) (args : Array Value) (below : List Frame) (meth : Method) (c : Code) (s₁ : State), BodyLoose p l q.1 (headSpec (mg_cw q :: mg_T) (mg_rm q)) q.2.1 q.2.2.1 q.2.2.2.1 e s m args below meth c s₁ → c.maxLocals = q.2.2.1 →
        (∀ z ∈ c.exceptionTable.toList, z ∈ tableOf q.2.2.2.2.1) → c.exceptionTable.toList = tableOf q.2.2.2.2.1 → mg_Pc D as M args s → W p l e (headSpec (mg_cw q :: mg_T) (mg_rm q)).room s m args below meth c s.heap [] 0 0 (vx_MQ below (mg_Qc D N) (mg_XC D X) args s q.2.2.2.2.2.2.1 (160 * q.2.2.2.2.2.2.1) (mg_A D)) (entryFrame m args q.2.2.1) := by
      intro p e s m args below meth c s₁ B hml htb htb2 hv
      obtain ⟨rfl, hoks, hK, hWw, hH, hZ⟩ := hv
      have hts0 := atoms_spec (ws := mg_cw q :: mg_T) B.pre
      have hts : ∀ w ∈ mg_T, w.before (as.map mg_tv).toArray s = true := fun w hw => hts0 w (List.mem_cons_of_mem _ hw)
      have hown : s.vm.findClass (mg_R C.2.2.2.1.2) = some m.cls := by rw [← c1]; exact findClass_of_methodNamed B.named
      have Cx : mg_cx p l (mg_rm q) s m (as.map mg_tv).toArray meth c D q.2.2.1 q.2.2.2.2.2.2.1 (160 * q.2.2.2.2.2.2.1) q.2.1 (mg_R C.2.2.2.1.2) q.2.2.2.2.2.1 :=
        ⟨B.exec, B.bytes, hml, hts, hown, hK, hWw, hZ, Nat.le_refl _, Nat.le_refl _, B.notSynchronized, hl, Nat.le_refl _, Nat.le_refl _, hH.2.1⟩
      have hini : decide (q.1.name = "<init>") = true → meth.name = "<init>" := fun h9 => ((name_of_methodNamed B.named B.method).1).trans (of_decide_eq_true h9)
      have hS0 : va_S (mg_A D) s.heap s.heap [] := va_S.rf
      have hl9 := lv_entry (as.map mg_tv) (n := q.2.2.1) (by rw [mg_slotsS]; exact hsl1)
      rw [lg_entry_eq]
      generalize (lg_sl (as.map mg_tv) ++ List.replicate (q.2.2.1 - (lg_sl (as.map mg_tv)).length) Slot.unset).toArray = ls at hl9 ⊢
      have hF : mg_Fr ls q.2.2.1 (mg_ent 0 as) := ⟨by rw [mg_entS]; exact hl9, mg_entO 0 as hoks⟩
      have hG := h (mg_G p l e (mg_rm q) s m (as.map mg_tv).toArray below meth c (vx_MQ below (mg_Qc D N) (mg_XC D X) (as.map mg_tv).toArray s q.2.2.2.2.2.2.1 (160 * q.2.2.2.2.2.2.1) (mg_A D)) D q.2.2.1 q.2.2.2.2.2.2.1 (160 * q.2.2.2.2.2.2.1)) (fun pc ls st M B9 h9 => mg_evS Cx hini
        (fun hd hr => gs_ret Cx (by rw [B.returns]; exact c2) hd hr)
        (fun {x M' pc L st B9 H1 locs1 cells slots ls q0 ce} x1 x6 hh hH1 hS1 hF1 hst1 hc hs hce hcv hcl => by
          have hcast : va_Nw (.castable (mg_ex x) (mg_ex x)) s := hWw.1 _ (by rcases mg_exs x1 x6 with rfl | rfl | rfl | rfl | rfl | rfl <;> decide)
          have hnc := hWw.2.2.2.2.1
          unfold mg_chkH at c3
          simp only [Bool.and_eq_true, Nat.beq_eq, List.all_eq_true, decide_eq_true_eq, Bool.or_eq_true] at c3
          obtain ⟨⟨l1, l2⟩, l3⟩ := c3
          have l3' : ∀ z ∈ C.2.2.1.zip q.2.2.2.2.1, z.1.1 = z.2.1 ∧ z.1.2.1 = z.2.2.1 ∧ z.1.2.2.1 = z.2.2.2.1 ∧ 1 ≤ z.1.2.2.2 ∧ z.1.2.2.2 ≤ 6 ∧ z.2.2.2.2 ≠ 0 ∧ (z.2.2.2.2, z.1.2.2.2) ∈ mg_hp := fun z hz => by
            have := l3 z hz
            exact ⟨this.1.1.1, this.1.1.2, this.1.2, this.2⟩
          refine gs_hand Cx x1 x6 hH1 hS1 hF1 hc hs hce hcv hcl hcast hnc C.2.2.1 (q.2.2.2.2.1.map fun z => z.2.2.2) [] ?_ (by rw [List.length_map]; exact l1) ?_ (fun z hz => (nomatch hz)) (mg_handN hh (fun hX _ hpass => ?_))
          · rw [List.nil_append, htb2]
            exact mg_tabEq _ _ l1 (fun z hz => ⟨(l3' z hz).1, (l3' z hz).2.1, (l3' z hz).2.2.1⟩)
          · intro z hz
            rw [List.zip_map_right] at hz
            obtain ⟨z', hz', rfl⟩ := List.mem_map.mp hz
            obtain ⟨-, -, -, g1, g2, g3, g4⟩ := l3' z' hz'
            refine ⟨g1, g2, g3, ?_⟩
            have ho : C.2.2.2.1.2 = 9 := by
              rcases l2 with l2 | l2
              · rw [List.isEmpty_iff.mp l2] at hz'
                rw [List.zip_nil_right] at hz'
                cases hz'
              · exact l2
            rw [ho]
            exact hts _ (mg_filt (mg_memf mg_hpk _ g4) (List.all_eq_true.mp mg_hpg _ g4))
          · exact vx_outP hown B.notSynchronized hpass hce hcv hcl (fun t ht hal => ⟨⟨x, M', rfl, x1, x6, hX, by rw [ht]; exact hH1.moved hal⟩, hS1.F ht⟩) hS1.2.2 (by omega) (by omega))
        (fun {pc i b c9 k L st M B9} n1 n0 n2 n3 n4 n5 n6 n7 n8 => by
          have t1 := List.all_eq_true.mp mg_tps _ n3
          simp only [Bool.and_eq_true, decide_eq_true_eq] at t1
          obtain ⟨tx, htx, hb9⟩ := List.mem_map.mp t1.1
          obtain ⟨b', text⟩ := tx
          dsimp only at hb9
          subst hb9
          have hk1 : 1 ≤ k ∧ k ≤ 6 := by omega
          have Cx6 := Cx
          rw [n0] at Cx6
          refine gs_throw Cx6 (fun z hz => ?_) n2 hk1.1 hk1.2 (mg_filt (mg_memf mg_tpk _ n3) (List.all_eq_true.mp mg_tpg _ n3)) (mg_exT hk1.1 hk1.2) htx t1.2 n7.1 n7.2 n4 n5 n6 n8
          have := htb z hz
          rw [List.isEmpty_iff.mp n1] at this
          cases this) c4 1000 false pc ls st M B9 h9) q hq
      exact hG s.heap [] 0 0 ls hH hS0 hF (fun v hv => (nomatch hv)) (by omega) (by omega)
    cases hh : q.2.2.2.2.1 with
    | nil =>
      have hcw : mg_cw q = .code q.1 q.2.1 q.2.2.1 q.2.2.2.1 := by unfold mg_cw; rw [hh]
      refine vx_ofW (ws' := mg_T) hqok.2.2.1 (by rw [hcw]) (fun p e s m args below meth c s₁ B hml ht hv => body p e s m args below meth c s₁ B hml (fun z hz => (ht z hz).elim) ?_ hv)
      rw [hh]
      cases ht9 : c.exceptionTable.toList with
      | nil => rfl
      | cons z t => exact (ht z (by rw [ht9]; exact List.mem_cons_self)).elim
    | cons h9 t9 =>
      have hcw : mg_cw q = .codeWith q.1 q.2.1 q.2.2.1 q.2.2.2.1 (h9 :: t9) := by unfold mg_cw; rw [hh]
      refine vx_ofWH (ws' := mg_T) (hh := h9 :: t9) hqok.2.2.1 (by rw [hcw]) (fun p e s m args below meth c s₁ B hml hv => ?_)
      have hts0 := atoms_spec (ws := mg_cw q :: mg_T) B.pre
      have htab : c.exceptionTable.toList = tableOf q.2.2.2.2.1 := by rw [hh]; exact vx_table (x := q.1) B (by rw [← hcw]; exact hts0 _ List.mem_cons_self)
      exact body p e s m args below meth c s₁ B hml (fun z hz => by rw [← htab]; exact hz) htab hv
end
section
theorem ok_X2_init : mg_chkM 1 mc_X2_init = true := by decide +kernel
theorem ok_X2_lie : mg_chkM 2 mc_X2_lie = true := by decide +kernel
theorem ok_X2_fill : mg_chkM 3 mc_X2_fill = true := by decide +kernel
theorem ok_X2_become : mg_chkM 4 mc_X2_become = true := by decide +kernel
theorem ok_X2_bottom : mg_chkM 5 mc_X2_bottom = true := by decide +kernel
theorem ok_X2_right : mg_chkM 6 mc_X2_right = true := by decide +kernel
theorem ok_X2_isWithin : mg_chkM 7 mc_X2_isWithin = true := by decide +kernel
theorem ok_X2_meets : mg_chkM 8 mc_X2_meets = true := by decide +kernel
theorem ok_X2_isAcross : mg_chkM 9 mc_X2_isAcross = true := by decide +kernel
theorem ok_X2_makeRoomForRow : mg_chkM 10 mc_X2_makeRoomForRow = true := by decide +kernel
theorem ok_X2_makeRoomForColumn : mg_chkM 11 mc_X2_makeRoomForColumn = true := by decide +kernel
theorem ok_X2_loseRow : mg_chkM 12 mc_X2_loseRow = true := by decide +kernel
theorem ok_X2_loseColumn : mg_chkM 13 mc_X2_loseColumn = true := by decide +kernel
theorem ok_X0_init : mg_chkM 14 mc_X0_init = true := by decide +kernel
theorem ok_X0_span : mg_chkM 15 mc_X0_span = true := by decide +kernel
theorem ok_X0_squares : mg_chkM 16 mc_X0_squares = true := by decide +kernel
theorem ok_X0_takeIn : mg_chkM 17 mc_X0_takeIn = true := by decide +kernel
theorem ok_X3_init : mg_chkM 18 mc_X3_init = true := by decide +kernel
theorem ok_X3_get : mg_chkM 19 mc_X3_get = true := by decide +kernel
theorem ok_X3_add : mg_chkM 20 mc_X3_add = true := by decide +kernel
theorem ok_X3_remove : mg_chkM 21 mc_X3_remove = true := by decide +kernel
theorem ok_X3_removeIn : mg_chkM 22 mc_X3_removeIn = true := by decide +kernel
theorem ok_X3_removeVanished : mg_chkM 23 mc_X3_removeVanished = true := by decide +kernel
theorem ok_X3_become : mg_chkM 24 mc_X3_become = true := by decide +kernel
theorem ok_X3_countIn : mg_chkM 25 mc_X3_countIn = true := by decide +kernel
theorem ok_X3_filledIn : mg_chkM 26 mc_X3_filledIn = true := by decide +kernel
theorem ok_X3_sumIn : mg_chkM 27 mc_X3_sumIn = true := by decide +kernel
theorem ok_X3_emptyIn : mg_chkM 28 mc_X3_emptyIn = true := by decide +kernel
theorem ok_X3_paint : mg_chkM 29 mc_X3_paint = true := by decide +kernel
theorem ok_X3_isCut : mg_chkM 30 mc_X3_isCut = true := by decide +kernel
theorem ok_X3_isAcross : mg_chkM 31 mc_X3_isAcross = true := by decide +kernel
theorem ok_X3_hasTall : mg_chkM 32 mc_X3_hasTall = true := by decide +kernel
theorem ok_X3_mergedSquares : mg_chkM 33 mc_X3_mergedSquares = true := by decide +kernel
theorem ok_X1_init : mg_chkM 34 mc_X1_init = true := by decide +kernel
theorem ok_X1_isNothing : mg_chkM 35 mc_X1_isNothing = true := by decide +kernel
theorem ok_X1_take : mg_chkM 36 mc_X1_take = true := by decide +kernel
theorem ok_X1_isAcross : mg_chkM 37 mc_X1_isAcross = true := by decide +kernel
theorem ok_X4_init : mg_chkM 38 mc_X4_init = true := by decide +kernel
theorem ok_X4_hasRow : mg_chkM 39 mc_X4_hasRow = true := by decide +kernel
theorem ok_X4_hasColumn : mg_chkM 40 mc_X4_hasColumn = true := by decide +kernel
theorem ok_X4_isInHeader : mg_chkM 41 mc_X4_isInHeader = true := by decide +kernel
theorem ok_X4_become : mg_chkM 42 mc_X4_become = true := by decide +kernel
theorem ok_X4_ownerOf : mg_chkM 43 mc_X4_ownerOf = true := by decide +kernel
theorem ok_X4_setOwner : mg_chkM 44 mc_X4_setOwner = true := by decide +kernel
theorem ok_X4_cellOn : mg_chkM 45 mc_X4_cellOn = true := by decide +kernel
theorem ok_X4_settle : mg_chkM 46 mc_X4_settle = true := by decide +kernel
theorem ok_X4_own : mg_chkM 47 mc_X4_own = true := by decide +kernel
theorem ok_X4_addRow : mg_chkM 48 mc_X4_addRow = true := by decide +kernel
theorem ok_X4_addColumn : mg_chkM 49 mc_X4_addColumn = true := by decide +kernel
theorem ok_X4_dropRow : mg_chkM 50 mc_X4_dropRow = true := by decide +kernel
theorem ok_X4_dropColumn : mg_chkM 51 mc_X4_dropColumn = true := by decide +kernel
theorem ok_X4_insertSize : mg_chkM 52 mc_X4_insertSize = true := by decide +kernel
theorem ok_X4_removeSize : mg_chkM 53 mc_X4_removeSize = true := by decide +kernel
theorem ok_X4_planMove : mg_chkM 54 mc_X4_planMove = true := by decide +kernel
theorem ok_X4_planSort : mg_chkM 55 mc_X4_planSort = true := by decide +kernel
theorem ok_X4_rowsSortedBefore : mg_chkM 56 mc_X4_rowsSortedBefore = true := by decide +kernel
theorem ok_X4_placeOf : mg_chkM 57 mc_X4_placeOf = true := by decide +kernel
theorem ok_X4_movedRows : mg_chkM 58 mc_X4_movedRows = true := by decide +kernel
theorem ok_X4_renumberRows : mg_chkM 59 mc_X4_renumberRows = true := by decide +kernel
theorem ok_X4_growByCells : mg_chkM 60 mc_X4_growByCells = true := by decide +kernel
theorem ok_X4_takeInCells : mg_chkM 61 mc_X4_takeInCells = true := by decide +kernel
theorem ok_X4_growByBorders : mg_chkM 62 mc_X4_growByBorders = true := by decide +kernel
theorem ok_X4_takeInBorders : mg_chkM 63 mc_X4_takeInBorders = true := by decide +kernel
theorem ok_X4_join : mg_chkM 64 mc_X4_join = true := by decide +kernel
theorem ok_X4_part : mg_chkM 65 mc_X4_part = true := by decide +kernel
theorem ok_X4_put : mg_chkM 66 mc_X4_put = true := by decide +kernel
theorem ok_X4_putOne : mg_chkM 67 mc_X4_putOne = true := by decide +kernel
theorem ok_X4_isCoveredOnce : mg_chkM 68 mc_X4_isCoveredOnce = true := by decide +kernel
theorem ok_X4_ownsItsSquares : mg_chkM 69 mc_X4_ownsItsSquares = true := by decide +kernel
theorem ok_J7_fill_53178 : mg_chkM 70 mc_J7_fill_53178 = true := by decide +kernel
end
section
theorem ok_X5_init : mg_chkM 71 mc_X5_init = true := by decide +kernel
theorem ok_X5_rows : mg_chkM 72 mc_X5_rows = true := by decide +kernel
theorem ok_X5_columns : mg_chkM 73 mc_X5_columns = true := by decide +kernel
theorem ok_X5_cellCount : mg_chkM 74 mc_X5_cellCount = true := by decide +kernel
theorem ok_X5_cellsBySquares : mg_chkM 75 mc_X5_cellsBySquares = true := by decide +kernel
theorem ok_X5_insertRow : mg_chkM 76 mc_X5_insertRow = true := by decide +kernel
theorem ok_X5_insertColumn : mg_chkM 77 mc_X5_insertColumn = true := by decide +kernel
theorem ok_X5_deleteRow : mg_chkM 78 mc_X5_deleteRow = true := by decide +kernel
theorem ok_X5_deleteColumn : mg_chkM 79 mc_X5_deleteColumn = true := by decide +kernel
theorem ok_X5_moveRow : mg_chkM 80 mc_X5_moveRow = true := by decide +kernel
theorem ok_X5_topOf : mg_chkM 81 mc_X5_topOf = true := by decide +kernel
theorem ok_X5_leftOf : mg_chkM 82 mc_X5_leftOf = true := by decide +kernel
theorem ok_X5_rowsOf : mg_chkM 83 mc_X5_rowsOf = true := by decide +kernel
theorem ok_X5_columnsOf : mg_chkM 84 mc_X5_columnsOf = true := by decide +kernel
theorem ok_X5_contentAt : mg_chkM 85 mc_X5_contentAt = true := by decide +kernel
theorem ok_X5_styleAt : mg_chkM 86 mc_X5_styleAt = true := by decide +kernel
theorem ok_X5_setContent : mg_chkM 87 mc_X5_setContent = true := by decide +kernel
theorem ok_X5_setStyle : mg_chkM 88 mc_X5_setStyle = true := by decide +kernel
theorem ok_X5_select : mg_chkM 89 mc_X5_select = true := by decide +kernel
theorem ok_X5_selected : mg_chkM 90 mc_X5_selected = true := by decide +kernel
theorem ok_X5_selectedCells : mg_chkM 91 mc_X5_selectedCells = true := by decide +kernel
theorem ok_X5_squaresFor : mg_chkM 92 mc_X5_squaresFor = true := by decide +kernel
theorem ok_X5_merge : mg_chkM 93 mc_X5_merge = true := by decide +kernel
theorem ok_X5_split : mg_chkM 94 mc_X5_split = true := by decide +kernel
theorem ok_X5_clear : mg_chkM 95 mc_X5_clear = true := by decide +kernel
theorem ok_X5_copy : mg_chkM 96 mc_X5_copy = true := by decide +kernel
theorem ok_X5_paste : mg_chkM 97 mc_X5_paste = true := by decide +kernel
theorem ok_X5_setHeader : mg_chkM 98 mc_X5_setHeader = true := by decide +kernel
theorem ok_X5_header : mg_chkM 99 mc_X5_header = true := by decide +kernel
theorem ok_X5_sort : mg_chkM 100 mc_X5_sort = true := by decide +kernel
theorem ok_X5_widthOf : mg_chkM 101 mc_X5_widthOf = true := by decide +kernel
theorem ok_X5_heightOf : mg_chkM 102 mc_X5_heightOf = true := by decide +kernel
theorem ok_X5_setWidth : mg_chkM 103 mc_X5_setWidth = true := by decide +kernel
theorem ok_X5_setHeight : mg_chkM 104 mc_X5_setHeight = true := by decide +kernel
theorem ok_X5_drag : mg_chkM 105 mc_X5_drag = true := by decide +kernel
theorem ok_X5_even : mg_chkM 106 mc_X5_even = true := by decide +kernel
theorem ok_X5_sizeOf : mg_chkM 107 mc_X5_sizeOf = true := by decide +kernel
theorem ok_X5_cellAt : mg_chkM 108 mc_X5_cellAt = true := by decide +kernel
theorem ok_X5_takeBack : mg_chkM 109 mc_X5_takeBack = true := by decide +kernel
theorem ok_X5_sum : mg_chkM 110 mc_X5_sum = true := by decide +kernel
theorem ok_X5_mean : mg_chkM 111 mc_X5_mean = true := by decide +kernel
theorem ok_X5_mergedShare : mg_chkM 112 mc_X5_mergedShare = true := by decide +kernel
theorem ok_X5_isTiled : mg_chkM 113 mc_X5_isTiled = true := by decide +kernel
theorem ok_X5_checkRow : mg_chkM 114 mc_X5_checkRow = true := by decide +kernel
theorem ok_X5_checkColumn : mg_chkM 115 mc_X5_checkColumn = true := by decide +kernel
theorem ok_X5_checkSquare : mg_chkM 116 mc_X5_checkSquare = true := by decide +kernel
theorem ok_X5_isTimes : mg_chkM 117 mc_X5_isTimes = true := by decide +kernel
theorem ok_X5_isWidth : mg_chkM 118 mc_X5_isWidth = true := by decide +kernel
theorem ok_X5_remember : mg_chkM 119 mc_X5_remember = true := by decide +kernel
theorem ok_X5_selectFirst : mg_chkM 120 mc_X5_selectFirst = true := by decide +kernel
theorem ok_X5_sumOf : mg_chkM 121 mc_X5_sumOf = true := by decide +kernel
theorem ok_X5_lineAt : mg_chkM 122 mc_X5_lineAt = true := by decide +kernel
end
section
theorem ok_X6_init : mg_chkM 123 mc_X6_init = true := by decide +kernel
theorem ok_X6_thrown : mg_chkM 124 mc_X6_thrown = true := by decide +kernel
theorem ok_X6_fails : mg_chkM 125 mc_X6_fails = true := by decide +kernel
theorem ok_X6_in : mg_chkM 126 mc_X6_in = true := by decide +kernel
theorem ok_X6_isSquare : mg_chkM 127 mc_X6_isSquare = true := by decide +kernel
theorem ok_X6_id : mg_chkM 128 mc_X6_id = true := by decide +kernel
theorem ok_X6_settles : mg_chkM 129 mc_X6_settles = true := by decide +kernel
theorem ok_X6_renames : mg_chkM 130 mc_X6_renames = true := by decide +kernel
theorem ok_X6_keeps : mg_chkM 131 mc_X6_keeps = true := by decide +kernel
theorem ok_X6_isIn : mg_chkM 132 mc_X6_isIn = true := by decide +kernel
theorem ok_X6_isCut : mg_chkM 133 mc_X6_isCut = true := by decide +kernel
theorem ok_X6_takesIn : mg_chkM 134 mc_X6_takesIn = true := by decide +kernel
theorem ok_X6_grows : mg_chkM 135 mc_X6_grows = true := by decide +kernel
theorem ok_X6_spans : mg_chkM 136 mc_X6_spans = true := by decide +kernel
theorem ok_X6_selects : mg_chkM 137 mc_X6_selects = true := by decide +kernel
theorem ok_X6_startsAnew : mg_chkM 138 mc_X6_startsAnew = true := by decide +kernel
theorem ok_X6_isChosen : mg_chkM 139 mc_X6_isChosen = true := by decide +kernel
theorem ok_X6_rows : mg_chkM 140 mc_X6_rows = true := by decide +kernel
theorem ok_X6_columns : mg_chkM 141 mc_X6_columns = true := by decide +kernel
theorem ok_X6_cellCount : mg_chkM 142 mc_X6_cellCount = true := by decide +kernel
theorem ok_X6_cellsBySquares : mg_chkM 143 mc_X6_cellsBySquares = true := by decide +kernel
theorem ok_X6_putsAside : mg_chkM 144 mc_X6_putsAside = true := by decide +kernel
theorem ok_X6_freshens : mg_chkM 145 mc_X6_freshens = true := by decide +kernel
theorem ok_X6_insertRow : mg_chkM 146 mc_X6_insertRow = true := by decide +kernel
theorem ok_X6_insertColumn : mg_chkM 147 mc_X6_insertColumn = true := by decide +kernel
theorem ok_X6_deleteRow : mg_chkM 148 mc_X6_deleteRow = true := by decide +kernel
theorem ok_X6_deleteColumn : mg_chkM 149 mc_X6_deleteColumn = true := by decide +kernel
theorem ok_X6_isTied : mg_chkM 150 mc_X6_isTied = true := by decide +kernel
theorem ok_X6_exchanges : mg_chkM 151 mc_X6_exchanges = true := by decide +kernel
theorem ok_X6_moveRow : mg_chkM 152 mc_X6_moveRow = true := by decide +kernel
theorem ok_X6_failsSquare : mg_chkM 153 mc_X6_failsSquare = true := by decide +kernel
theorem ok_X6_topRow : mg_chkM 154 mc_X6_topRow = true := by decide +kernel
theorem ok_X6_leftCol : mg_chkM 155 mc_X6_leftCol = true := by decide +kernel
theorem ok_X6_rowMany : mg_chkM 156 mc_X6_rowMany = true := by decide +kernel
theorem ok_X6_colMany : mg_chkM 157 mc_X6_colMany = true := by decide +kernel
theorem ok_X6_topOf : mg_chkM 158 mc_X6_topOf = true := by decide +kernel
theorem ok_X6_leftOf : mg_chkM 159 mc_X6_leftOf = true := by decide +kernel
theorem ok_X6_rowsOf : mg_chkM 160 mc_X6_rowsOf = true := by decide +kernel
theorem ok_X6_columnsOf : mg_chkM 161 mc_X6_columnsOf = true := by decide +kernel
theorem ok_X6_contentAt : mg_chkM 162 mc_X6_contentAt = true := by decide +kernel
theorem ok_X6_styleAt : mg_chkM 163 mc_X6_styleAt = true := by decide +kernel
theorem ok_X6_setContent : mg_chkM 164 mc_X6_setContent = true := by decide +kernel
theorem ok_X6_setStyle : mg_chkM 165 mc_X6_setStyle = true := by decide +kernel
theorem ok_X6_failsTwo : mg_chkM 166 mc_X6_failsTwo = true := by decide +kernel
theorem ok_X6_select : mg_chkM 167 mc_X6_select = true := by decide +kernel
theorem ok_X6_selected : mg_chkM 168 mc_X6_selected = true := by decide +kernel
theorem ok_X6_chosen : mg_chkM 169 mc_X6_chosen = true := by decide +kernel
theorem ok_X6_selectedCells : mg_chkM 170 mc_X6_selectedCells = true := by decide +kernel
theorem ok_X6_squaresFor : mg_chkM 171 mc_X6_squaresFor = true := by decide +kernel
theorem ok_X6_filled : mg_chkM 172 mc_X6_filled = true := by decide +kernel
theorem ok_X6_chosenSum : mg_chkM 173 mc_X6_chosenSum = true := by decide +kernel
theorem ok_X6_merge : mg_chkM 174 mc_X6_merge = true := by decide +kernel
theorem ok_X6_split : mg_chkM 175 mc_X6_split = true := by decide +kernel
theorem ok_X6_parts : mg_chkM 176 mc_X6_parts = true := by decide +kernel
theorem ok_X6_beginOf : mg_chkM 177 mc_X6_beginOf = true := by decide +kernel
theorem ok_X6_placed : mg_chkM 178 mc_X6_placed = true := by decide +kernel
theorem ok_X6_spreads : mg_chkM 179 mc_X6_spreads = true := by decide +kernel
theorem ok_X6_clear : mg_chkM 180 mc_X6_clear = true := by decide +kernel
theorem ok_X6_copy : mg_chkM 181 mc_X6_copy = true := by decide +kernel
theorem ok_X6_isParted : mg_chkM 182 mc_X6_isParted = true := by decide +kernel
theorem ok_X6_isAnyCut : mg_chkM 183 mc_X6_isAnyCut = true := by decide +kernel
theorem ok_X6_paste : mg_chkM 184 mc_X6_paste = true := by decide +kernel
theorem ok_X6_lays : mg_chkM 185 mc_X6_lays = true := by decide +kernel
theorem ok_X6_oldBegin : mg_chkM 186 mc_X6_oldBegin = true := by decide +kernel
theorem ok_X6_pastedBegin : mg_chkM 187 mc_X6_pastedBegin = true := by decide +kernel
theorem ok_X6_isTiedAt : mg_chkM 188 mc_X6_isTiedAt = true := by decide +kernel
theorem ok_X6_setHeader : mg_chkM 189 mc_X6_setHeader = true := by decide +kernel
theorem ok_X6_header : mg_chkM 190 mc_X6_header = true := by decide +kernel
theorem ok_X6_sort : mg_chkM 191 mc_X6_sort = true := by decide +kernel
theorem ok_X6_isCol : mg_chkM 192 mc_X6_isCol = true := by decide +kernel
theorem ok_X6_widthOf : mg_chkM 193 mc_X6_widthOf = true := by decide +kernel
theorem ok_X6_heightOf : mg_chkM 194 mc_X6_heightOf = true := by decide +kernel
theorem ok_X6_setWidth : mg_chkM 195 mc_X6_setWidth = true := by decide +kernel
theorem ok_X6_setHeight : mg_chkM 196 mc_X6_setHeight = true := by decide +kernel
theorem ok_X6_drag : mg_chkM 197 mc_X6_drag = true := by decide +kernel
theorem ok_X6_even : mg_chkM 198 mc_X6_even = true := by decide +kernel
theorem ok_X6_sizeOf : mg_chkM 199 mc_X6_sizeOf = true := by decide +kernel
theorem ok_X6_cellAt : mg_chkM 200 mc_X6_cellAt = true := by decide +kernel
theorem ok_X6_changes : mg_chkM 201 mc_X6_changes = true := by decide +kernel
theorem ok_X6_takeBack : mg_chkM 202 mc_X6_takeBack = true := by decide +kernel
theorem ok_X6_sum : mg_chkM 203 mc_X6_sum = true := by decide +kernel
theorem ok_X6_mean : mg_chkM 204 mc_X6_mean = true := by decide +kernel
theorem ok_X6_mergedShare : mg_chkM 205 mc_X6_mergedShare = true := by decide +kernel
theorem ok_X6_isTiled : mg_chkM 206 mc_X6_isTiled = true := by decide +kernel
end
section
theorem ok_L_insertRow : mg_chkM 207 mc_L_insertRow = true := by decide +kernel
theorem ok_L_insertColumn : mg_chkM 208 mc_L_insertColumn = true := by decide +kernel
theorem ok_L_deleteRow : mg_chkM 209 mc_L_deleteRow = true := by decide +kernel
theorem ok_L_deleteColumn : mg_chkM 210 mc_L_deleteColumn = true := by decide +kernel
theorem ok_L_moveRow : mg_chkM 211 mc_L_moveRow = true := by decide +kernel
theorem ok_L_topOf : mg_chkM 212 mc_L_topOf = true := by decide +kernel
theorem ok_L_leftOf : mg_chkM 213 mc_L_leftOf = true := by decide +kernel
theorem ok_L_rowsOf : mg_chkM 214 mc_L_rowsOf = true := by decide +kernel
theorem ok_L_columnsOf : mg_chkM 215 mc_L_columnsOf = true := by decide +kernel
theorem ok_L_contentAt : mg_chkM 216 mc_L_contentAt = true := by decide +kernel
theorem ok_L_styleAt : mg_chkM 217 mc_L_styleAt = true := by decide +kernel
theorem ok_L_setContent : mg_chkM 218 mc_L_setContent = true := by decide +kernel
theorem ok_L_setStyle : mg_chkM 219 mc_L_setStyle = true := by decide +kernel
theorem ok_L_select : mg_chkM 220 mc_L_select = true := by decide +kernel
theorem ok_L_selected : mg_chkM 221 mc_L_selected = true := by decide +kernel
theorem ok_L_squaresFor : mg_chkM 222 mc_L_squaresFor = true := by decide +kernel
theorem ok_L_merge : mg_chkM 223 mc_L_merge = true := by decide +kernel
theorem ok_L_split : mg_chkM 224 mc_L_split = true := by decide +kernel
theorem ok_L_clear : mg_chkM 225 mc_L_clear = true := by decide +kernel
theorem ok_L_paste : mg_chkM 226 mc_L_paste = true := by decide +kernel
theorem ok_L_setHeader : mg_chkM 227 mc_L_setHeader = true := by decide +kernel
theorem ok_L_sort : mg_chkM 228 mc_L_sort = true := by decide +kernel
theorem ok_L_widthOf : mg_chkM 229 mc_L_widthOf = true := by decide +kernel
theorem ok_L_heightOf : mg_chkM 230 mc_L_heightOf = true := by decide +kernel
theorem ok_L_setWidth : mg_chkM 231 mc_L_setWidth = true := by decide +kernel
theorem ok_L_setHeight : mg_chkM 232 mc_L_setHeight = true := by decide +kernel
theorem ok_L_drag : mg_chkM 233 mc_L_drag = true := by decide +kernel
theorem ok_L_even : mg_chkM 234 mc_L_even = true := by decide +kernel
theorem ok_L_sizeOf : mg_chkM 235 mc_L_sizeOf = true := by decide +kernel
theorem ok_L_cellAt : mg_chkM 236 mc_L_cellAt = true := by decide +kernel
theorem ok_L_takeBack : mg_chkM 237 mc_L_takeBack = true := by decide +kernel
theorem ok_L_mean : mg_chkM 238 mc_L_mean = true := by decide +kernel
end
section
theorem al_X2_init : (mg_mt[1 - 1]?).map (fun q => (q.2.2.1, q.2.2.2.2.2.2.1)) = some (1, 0) := by decide +kernel
theorem al_X2_lie : (mg_mt[2 - 1]?).map (fun q => (q.2.2.1, q.2.2.2.2.2.2.1)) = some (5, 0) := by decide +kernel
theorem al_X2_fill : (mg_mt[3 - 1]?).map (fun q => (q.2.2.1, q.2.2.2.2.2.2.1)) = some (3, 0) := by decide +kernel
theorem al_X2_become : (mg_mt[4 - 1]?).map (fun q => (q.2.2.1, q.2.2.2.2.2.2.1)) = some (2, 0) := by decide +kernel
theorem al_X2_bottom : (mg_mt[5 - 1]?).map (fun q => (q.2.2.1, q.2.2.2.2.2.2.1)) = some (1, 0) := by decide +kernel
theorem al_X2_right : (mg_mt[6 - 1]?).map (fun q => (q.2.2.1, q.2.2.2.2.2.2.1)) = some (1, 0) := by decide +kernel
theorem al_X2_isWithin : (mg_mt[7 - 1]?).map (fun q => (q.2.2.1, q.2.2.2.2.2.2.1)) = some (2, 0) := by decide +kernel
theorem al_X2_meets : (mg_mt[8 - 1]?).map (fun q => (q.2.2.1, q.2.2.2.2.2.2.1)) = some (2, 0) := by decide +kernel
theorem al_X2_isAcross : (mg_mt[9 - 1]?).map (fun q => (q.2.2.1, q.2.2.2.2.2.2.1)) = some (2, 0) := by decide +kernel
theorem al_X2_makeRoomForRow : (mg_mt[10 - 1]?).map (fun q => (q.2.2.1, q.2.2.2.2.2.2.1)) = some (2, 0) := by decide +kernel
theorem al_X2_makeRoomForColumn : (mg_mt[11 - 1]?).map (fun q => (q.2.2.1, q.2.2.2.2.2.2.1)) = some (2, 0) := by decide +kernel
theorem al_X2_loseRow : (mg_mt[12 - 1]?).map (fun q => (q.2.2.1, q.2.2.2.2.2.2.1)) = some (2, 0) := by decide +kernel
theorem al_X2_loseColumn : (mg_mt[13 - 1]?).map (fun q => (q.2.2.1, q.2.2.2.2.2.2.1)) = some (2, 0) := by decide +kernel
theorem al_X0_init : (mg_mt[14 - 1]?).map (fun q => (q.2.2.1, q.2.2.2.2.2.2.1)) = some (1, 0) := by decide +kernel
theorem al_X0_span : (mg_mt[15 - 1]?).map (fun q => (q.2.2.1, q.2.2.2.2.2.2.1)) = some (5, 0) := by decide +kernel
theorem al_X0_squares : (mg_mt[16 - 1]?).map (fun q => (q.2.2.1, q.2.2.2.2.2.2.1)) = some (1, 0) := by decide +kernel
theorem al_X0_takeIn : (mg_mt[17 - 1]?).map (fun q => (q.2.2.1, q.2.2.2.2.2.2.1)) = some (2, 0) := by decide +kernel
theorem al_X3_init : (mg_mt[18 - 1]?).map (fun q => (q.2.2.1, q.2.2.2.2.2.2.1)) = some (2, 125) := by decide +kernel
theorem al_X3_get : (mg_mt[19 - 1]?).map (fun q => (q.2.2.1, q.2.2.2.2.2.2.1)) = some (2, 0) := by decide +kernel
theorem al_X3_add : (mg_mt[20 - 1]?).map (fun q => (q.2.2.1, q.2.2.2.2.2.2.1)) = some (6, 0) := by decide +kernel
theorem al_X3_remove : (mg_mt[21 - 1]?).map (fun q => (q.2.2.1, q.2.2.2.2.2.2.1)) = some (3, 0) := by decide +kernel
theorem al_X3_removeIn : (mg_mt[22 - 1]?).map (fun q => (q.2.2.1, q.2.2.2.2.2.2.1)) = some (3, 0) := by decide +kernel
theorem al_X3_removeVanished : (mg_mt[23 - 1]?).map (fun q => (q.2.2.1, q.2.2.2.2.2.2.1)) = some (2, 0) := by decide +kernel
theorem al_X3_become : (mg_mt[24 - 1]?).map (fun q => (q.2.2.1, q.2.2.2.2.2.2.1)) = some (3, 0) := by decide +kernel
theorem al_X3_countIn : (mg_mt[25 - 1]?).map (fun q => (q.2.2.1, q.2.2.2.2.2.2.1)) = some (4, 0) := by decide +kernel
theorem al_X3_filledIn : (mg_mt[26 - 1]?).map (fun q => (q.2.2.1, q.2.2.2.2.2.2.1)) = some (4, 0) := by decide +kernel
theorem al_X3_sumIn : (mg_mt[27 - 1]?).map (fun q => (q.2.2.1, q.2.2.2.2.2.2.1)) = some (4, 0) := by decide +kernel
theorem al_X3_emptyIn : (mg_mt[28 - 1]?).map (fun q => (q.2.2.1, q.2.2.2.2.2.2.1)) = some (3, 0) := by decide +kernel
theorem al_X3_paint : (mg_mt[29 - 1]?).map (fun q => (q.2.2.1, q.2.2.2.2.2.2.1)) = some (6, 0) := by decide +kernel
theorem al_X3_isCut : (mg_mt[30 - 1]?).map (fun q => (q.2.2.1, q.2.2.2.2.2.2.1)) = some (3, 0) := by decide +kernel
theorem al_X3_isAcross : (mg_mt[31 - 1]?).map (fun q => (q.2.2.1, q.2.2.2.2.2.2.1)) = some (3, 0) := by decide +kernel
theorem al_X3_hasTall : (mg_mt[32 - 1]?).map (fun q => (q.2.2.1, q.2.2.2.2.2.2.1)) = some (5, 0) := by decide +kernel
theorem al_X3_mergedSquares : (mg_mt[33 - 1]?).map (fun q => (q.2.2.1, q.2.2.2.2.2.2.1)) = some (4, 0) := by decide +kernel
theorem al_X1_init : (mg_mt[34 - 1]?).map (fun q => (q.2.2.1, q.2.2.2.2.2.2.1)) = some (1, 126) := by decide +kernel
theorem al_X1_isNothing : (mg_mt[35 - 1]?).map (fun q => (q.2.2.1, q.2.2.2.2.2.2.1)) = some (1, 0) := by decide +kernel
theorem al_X1_take : (mg_mt[36 - 1]?).map (fun q => (q.2.2.1, q.2.2.2.2.2.2.1)) = some (5, 0) := by decide +kernel
theorem al_X1_isAcross : (mg_mt[37 - 1]?).map (fun q => (q.2.2.1, q.2.2.2.2.2.2.1)) = some (5, 0) := by decide +kernel
theorem al_X4_init : (mg_mt[38 - 1]?).map (fun q => (q.2.2.1, q.2.2.2.2.2.2.1)) = some (1, 135) := by decide +kernel
theorem al_X4_hasRow : (mg_mt[39 - 1]?).map (fun q => (q.2.2.1, q.2.2.2.2.2.2.1)) = some (2, 0) := by decide +kernel
theorem al_X4_hasColumn : (mg_mt[40 - 1]?).map (fun q => (q.2.2.1, q.2.2.2.2.2.2.1)) = some (2, 0) := by decide +kernel
theorem al_X4_isInHeader : (mg_mt[41 - 1]?).map (fun q => (q.2.2.1, q.2.2.2.2.2.2.1)) = some (2, 0) := by decide +kernel
theorem al_X4_become : (mg_mt[42 - 1]?).map (fun q => (q.2.2.1, q.2.2.2.2.2.2.1)) = some (2, 0) := by decide +kernel
theorem al_X4_ownerOf : (mg_mt[43 - 1]?).map (fun q => (q.2.2.1, q.2.2.2.2.2.2.1)) = some (3, 0) := by decide +kernel
theorem al_X4_setOwner : (mg_mt[44 - 1]?).map (fun q => (q.2.2.1, q.2.2.2.2.2.2.1)) = some (4, 0) := by decide +kernel
theorem al_X4_cellOn : (mg_mt[45 - 1]?).map (fun q => (q.2.2.1, q.2.2.2.2.2.2.1)) = some (3, 0) := by decide +kernel
theorem al_X4_settle : (mg_mt[46 - 1]?).map (fun q => (q.2.2.1, q.2.2.2.2.2.2.1)) = some (3, 0) := by decide +kernel
theorem al_X4_own : (mg_mt[47 - 1]?).map (fun q => (q.2.2.1, q.2.2.2.2.2.2.1)) = some (5, 0) := by decide +kernel
theorem al_X4_addRow : (mg_mt[48 - 1]?).map (fun q => (q.2.2.1, q.2.2.2.2.2.2.1)) = some (3, 0) := by decide +kernel
theorem al_X4_addColumn : (mg_mt[49 - 1]?).map (fun q => (q.2.2.1, q.2.2.2.2.2.2.1)) = some (3, 0) := by decide +kernel
theorem al_X4_dropRow : (mg_mt[50 - 1]?).map (fun q => (q.2.2.1, q.2.2.2.2.2.2.1)) = some (3, 0) := by decide +kernel
theorem al_X4_dropColumn : (mg_mt[51 - 1]?).map (fun q => (q.2.2.1, q.2.2.2.2.2.2.1)) = some (3, 0) := by decide +kernel
theorem al_X4_insertSize : (mg_mt[52 - 1]?).map (fun q => (q.2.2.1, q.2.2.2.2.2.2.1)) = some (4, 0) := by decide +kernel
theorem al_X4_removeSize : (mg_mt[53 - 1]?).map (fun q => (q.2.2.1, q.2.2.2.2.2.2.1)) = some (3, 0) := by decide +kernel
theorem al_X4_planMove : (mg_mt[54 - 1]?).map (fun q => (q.2.2.1, q.2.2.2.2.2.2.1)) = some (4, 0) := by decide +kernel
theorem al_X4_planSort : (mg_mt[55 - 1]?).map (fun q => (q.2.2.1, q.2.2.2.2.2.2.1)) = some (5, 0) := by decide +kernel
theorem al_X4_rowsSortedBefore : (mg_mt[56 - 1]?).map (fun q => (q.2.2.1, q.2.2.2.2.2.2.1)) = some (9, 0) := by decide +kernel
theorem al_X4_placeOf : (mg_mt[57 - 1]?).map (fun q => (q.2.2.1, q.2.2.2.2.2.2.1)) = some (2, 0) := by decide +kernel
theorem al_X4_movedRows : (mg_mt[58 - 1]?).map (fun q => (q.2.2.1, q.2.2.2.2.2.2.1)) = some (3, 0) := by decide +kernel
theorem al_X4_renumberRows : (mg_mt[59 - 1]?).map (fun q => (q.2.2.1, q.2.2.2.2.2.2.1)) = some (3, 0) := by decide +kernel
theorem al_X4_growByCells : (mg_mt[60 - 1]?).map (fun q => (q.2.2.1, q.2.2.2.2.2.2.1)) = some (4, 0) := by decide +kernel
theorem al_X4_takeInCells : (mg_mt[61 - 1]?).map (fun q => (q.2.2.1, q.2.2.2.2.2.2.1)) = some (3, 0) := by decide +kernel
theorem al_X4_growByBorders : (mg_mt[62 - 1]?).map (fun q => (q.2.2.1, q.2.2.2.2.2.2.1)) = some (4, 0) := by decide +kernel
theorem al_X4_takeInBorders : (mg_mt[63 - 1]?).map (fun q => (q.2.2.1, q.2.2.2.2.2.2.1)) = some (7, 0) := by decide +kernel
theorem al_X4_join : (mg_mt[64 - 1]?).map (fun q => (q.2.2.1, q.2.2.2.2.2.2.1)) = some (6, 0) := by decide +kernel
theorem al_X4_part : (mg_mt[65 - 1]?).map (fun q => (q.2.2.1, q.2.2.2.2.2.2.1)) = some (9, 0) := by decide +kernel
theorem al_X4_put : (mg_mt[66 - 1]?).map (fun q => (q.2.2.1, q.2.2.2.2.2.2.1)) = some (7, 0) := by decide +kernel
theorem al_X4_putOne : (mg_mt[67 - 1]?).map (fun q => (q.2.2.1, q.2.2.2.2.2.2.1)) = some (6, 0) := by decide +kernel
theorem al_X4_isCoveredOnce : (mg_mt[68 - 1]?).map (fun q => (q.2.2.1, q.2.2.2.2.2.2.1)) = some (3, 0) := by decide +kernel
theorem al_X4_ownsItsSquares : (mg_mt[69 - 1]?).map (fun q => (q.2.2.1, q.2.2.2.2.2.2.1)) = some (5, 0) := by decide +kernel
theorem al_J7_fill_53178 : (mg_mt[70 - 1]?).map (fun q => (q.2.2.1, q.2.2.2.2.2.2.1)) = some (4, 0) := by decide +kernel
theorem al_X5_init : (mg_mt[71 - 1]?).map (fun q => (q.2.2.1, q.2.2.2.2.2.2.1)) = some (1, 420) := by decide +kernel
theorem al_X5_rows : (mg_mt[72 - 1]?).map (fun q => (q.2.2.1, q.2.2.2.2.2.2.1)) = some (1, 0) := by decide +kernel
theorem al_X5_columns : (mg_mt[73 - 1]?).map (fun q => (q.2.2.1, q.2.2.2.2.2.2.1)) = some (1, 0) := by decide +kernel
theorem al_X5_cellCount : (mg_mt[74 - 1]?).map (fun q => (q.2.2.1, q.2.2.2.2.2.2.1)) = some (1, 0) := by decide +kernel
theorem al_X5_cellsBySquares : (mg_mt[75 - 1]?).map (fun q => (q.2.2.1, q.2.2.2.2.2.2.1)) = some (5, 0) := by decide +kernel
theorem al_X5_insertRow : (mg_mt[76 - 1]?).map (fun q => (q.2.2.1, q.2.2.2.2.2.2.1)) = some (2, 1) := by decide +kernel
theorem al_X5_insertColumn : (mg_mt[77 - 1]?).map (fun q => (q.2.2.1, q.2.2.2.2.2.2.1)) = some (2, 1) := by decide +kernel
theorem al_X5_deleteRow : (mg_mt[78 - 1]?).map (fun q => (q.2.2.1, q.2.2.2.2.2.2.1)) = some (2, 2) := by decide +kernel
theorem al_X5_deleteColumn : (mg_mt[79 - 1]?).map (fun q => (q.2.2.1, q.2.2.2.2.2.2.1)) = some (2, 2) := by decide +kernel
theorem al_X5_moveRow : (mg_mt[80 - 1]?).map (fun q => (q.2.2.1, q.2.2.2.2.2.2.1)) = some (3, 3) := by decide +kernel
theorem al_X5_topOf : (mg_mt[81 - 1]?).map (fun q => (q.2.2.1, q.2.2.2.2.2.2.1)) = some (3, 2) := by decide +kernel
theorem al_X5_leftOf : (mg_mt[82 - 1]?).map (fun q => (q.2.2.1, q.2.2.2.2.2.2.1)) = some (3, 2) := by decide +kernel
theorem al_X5_rowsOf : (mg_mt[83 - 1]?).map (fun q => (q.2.2.1, q.2.2.2.2.2.2.1)) = some (3, 2) := by decide +kernel
theorem al_X5_columnsOf : (mg_mt[84 - 1]?).map (fun q => (q.2.2.1, q.2.2.2.2.2.2.1)) = some (3, 2) := by decide +kernel
theorem al_X5_contentAt : (mg_mt[85 - 1]?).map (fun q => (q.2.2.1, q.2.2.2.2.2.2.1)) = some (3, 2) := by decide +kernel
theorem al_X5_styleAt : (mg_mt[86 - 1]?).map (fun q => (q.2.2.1, q.2.2.2.2.2.2.1)) = some (3, 2) := by decide +kernel
theorem al_X5_setContent : (mg_mt[87 - 1]?).map (fun q => (q.2.2.1, q.2.2.2.2.2.2.1)) = some (6, 3) := by decide +kernel
theorem al_X5_setStyle : (mg_mt[88 - 1]?).map (fun q => (q.2.2.1, q.2.2.2.2.2.2.1)) = some (2, 1) := by decide +kernel
theorem al_X5_select : (mg_mt[89 - 1]?).map (fun q => (q.2.2.1, q.2.2.2.2.2.2.1)) = some (5, 4) := by decide +kernel
theorem al_X5_selected : (mg_mt[90 - 1]?).map (fun q => (q.2.2.1, q.2.2.2.2.2.2.1)) = some (2, 1) := by decide +kernel
theorem al_X5_selectedCells : (mg_mt[91 - 1]?).map (fun q => (q.2.2.1, q.2.2.2.2.2.2.1)) = some (1, 0) := by decide +kernel
theorem al_X5_squaresFor : (mg_mt[92 - 1]?).map (fun q => (q.2.2.1, q.2.2.2.2.2.2.1)) = some (5, 4) := by decide +kernel
theorem al_X5_merge : (mg_mt[93 - 1]?).map (fun q => (q.2.2.1, q.2.2.2.2.2.2.1)) = some (2, 1) := by decide +kernel
theorem al_X5_split : (mg_mt[94 - 1]?).map (fun q => (q.2.2.1, q.2.2.2.2.2.2.1)) = some (7, 3) := by decide +kernel
theorem al_X5_clear : (mg_mt[95 - 1]?).map (fun q => (q.2.2.1, q.2.2.2.2.2.2.1)) = some (2, 1) := by decide +kernel
theorem al_X5_copy : (mg_mt[96 - 1]?).map (fun q => (q.2.2.1, q.2.2.2.2.2.2.1)) = some (1, 0) := by decide +kernel
theorem al_X5_paste : (mg_mt[97 - 1]?).map (fun q => (q.2.2.1, q.2.2.2.2.2.2.1)) = some (5, 3) := by decide +kernel
theorem al_X5_setHeader : (mg_mt[98 - 1]?).map (fun q => (q.2.2.1, q.2.2.2.2.2.2.1)) = some (2, 1) := by decide +kernel
theorem al_X5_header : (mg_mt[99 - 1]?).map (fun q => (q.2.2.1, q.2.2.2.2.2.2.1)) = some (1, 0) := by decide +kernel
theorem al_X5_sort : (mg_mt[100 - 1]?).map (fun q => (q.2.2.1, q.2.2.2.2.2.2.1)) = some (3, 2) := by decide +kernel
theorem al_X5_widthOf : (mg_mt[101 - 1]?).map (fun q => (q.2.2.1, q.2.2.2.2.2.2.1)) = some (2, 1) := by decide +kernel
theorem al_X5_heightOf : (mg_mt[102 - 1]?).map (fun q => (q.2.2.1, q.2.2.2.2.2.2.1)) = some (2, 1) := by decide +kernel
theorem al_X5_setWidth : (mg_mt[103 - 1]?).map (fun q => (q.2.2.1, q.2.2.2.2.2.2.1)) = some (3, 2) := by decide +kernel
theorem al_X5_setHeight : (mg_mt[104 - 1]?).map (fun q => (q.2.2.1, q.2.2.2.2.2.2.1)) = some (3, 2) := by decide +kernel
theorem al_X5_drag : (mg_mt[105 - 1]?).map (fun q => (q.2.2.1, q.2.2.2.2.2.2.1)) = some (8, 2) := by decide +kernel
theorem al_X5_even : (mg_mt[106 - 1]?).map (fun q => (q.2.2.1, q.2.2.2.2.2.2.1)) = some (6, 3) := by decide +kernel
theorem al_X5_sizeOf : (mg_mt[107 - 1]?).map (fun q => (q.2.2.1, q.2.2.2.2.2.2.1)) = some (4, 2) := by decide +kernel
theorem al_X5_cellAt : (mg_mt[108 - 1]?).map (fun q => (q.2.2.1, q.2.2.2.2.2.2.1)) = some (6, 1) := by decide +kernel
theorem al_X5_takeBack : (mg_mt[109 - 1]?).map (fun q => (q.2.2.1, q.2.2.2.2.2.2.1)) = some (2, 1) := by decide +kernel
theorem al_X5_sum : (mg_mt[110 - 1]?).map (fun q => (q.2.2.1, q.2.2.2.2.2.2.1)) = some (1, 0) := by decide +kernel
theorem al_X5_mean : (mg_mt[111 - 1]?).map (fun q => (q.2.2.1, q.2.2.2.2.2.2.1)) = some (2, 1) := by decide +kernel
theorem al_X5_mergedShare : (mg_mt[112 - 1]?).map (fun q => (q.2.2.1, q.2.2.2.2.2.2.1)) = some (2, 0) := by decide +kernel
theorem al_X5_isTiled : (mg_mt[113 - 1]?).map (fun q => (q.2.2.1, q.2.2.2.2.2.2.1)) = some (1, 0) := by decide +kernel
theorem al_X5_checkRow : (mg_mt[114 - 1]?).map (fun q => (q.2.2.1, q.2.2.2.2.2.2.1)) = some (2, 1) := by decide +kernel
theorem al_X5_checkColumn : (mg_mt[115 - 1]?).map (fun q => (q.2.2.1, q.2.2.2.2.2.2.1)) = some (2, 1) := by decide +kernel
theorem al_X5_checkSquare : (mg_mt[116 - 1]?).map (fun q => (q.2.2.1, q.2.2.2.2.2.2.1)) = some (3, 2) := by decide +kernel
theorem al_X5_isTimes : (mg_mt[117 - 1]?).map (fun q => (q.2.2.1, q.2.2.2.2.2.2.1)) = some (1, 0) := by decide +kernel
theorem al_X5_isWidth : (mg_mt[118 - 1]?).map (fun q => (q.2.2.1, q.2.2.2.2.2.2.1)) = some (2, 0) := by decide +kernel
theorem al_X5_remember : (mg_mt[119 - 1]?).map (fun q => (q.2.2.1, q.2.2.2.2.2.2.1)) = some (1, 0) := by decide +kernel
theorem al_X5_selectFirst : (mg_mt[120 - 1]?).map (fun q => (q.2.2.1, q.2.2.2.2.2.2.1)) = some (1, 0) := by decide +kernel
theorem al_X5_sumOf : (mg_mt[121 - 1]?).map (fun q => (q.2.2.1, q.2.2.2.2.2.2.1)) = some (5, 0) := by decide +kernel
theorem al_X5_lineAt : (mg_mt[122 - 1]?).map (fun q => (q.2.2.1, q.2.2.2.2.2.2.1)) = some (5, 0) := by decide +kernel
theorem al_X6_init : (mg_mt[123 - 1]?).map (fun q => (q.2.2.1, q.2.2.2.2.2.2.1)) = some (2, 20) := by decide +kernel
theorem al_X6_thrown : (mg_mt[124 - 1]?).map (fun q => (q.2.2.1, q.2.2.2.2.2.2.1)) = some (1, 0) := by decide +kernel
theorem al_X6_fails : (mg_mt[125 - 1]?).map (fun q => (q.2.2.1, q.2.2.2.2.2.2.1)) = some (2, 0) := by decide +kernel
theorem al_X6_in : (mg_mt[126 - 1]?).map (fun q => (q.2.2.1, q.2.2.2.2.2.2.1)) = some (3, 0) := by decide +kernel
theorem al_X6_isSquare : (mg_mt[127 - 1]?).map (fun q => (q.2.2.1, q.2.2.2.2.2.2.1)) = some (3, 0) := by decide +kernel
theorem al_X6_id : (mg_mt[128 - 1]?).map (fun q => (q.2.2.1, q.2.2.2.2.2.2.1)) = some (3, 0) := by decide +kernel
theorem al_X6_settles : (mg_mt[129 - 1]?).map (fun q => (q.2.2.1, q.2.2.2.2.2.2.1)) = some (4, 0) := by decide +kernel
theorem al_X6_renames : (mg_mt[130 - 1]?).map (fun q => (q.2.2.1, q.2.2.2.2.2.2.1)) = some (3, 0) := by decide +kernel
theorem al_X6_keeps : (mg_mt[131 - 1]?).map (fun q => (q.2.2.1, q.2.2.2.2.2.2.1)) = some (2, 0) := by decide +kernel
theorem al_X6_isIn : (mg_mt[132 - 1]?).map (fun q => (q.2.2.1, q.2.2.2.2.2.2.1)) = some (3, 0) := by decide +kernel
theorem al_X6_isCut : (mg_mt[133 - 1]?).map (fun q => (q.2.2.1, q.2.2.2.2.2.2.1)) = some (6, 0) := by decide +kernel
theorem al_X6_takesIn : (mg_mt[134 - 1]?).map (fun q => (q.2.2.1, q.2.2.2.2.2.2.1)) = some (4, 0) := by decide +kernel
theorem al_X6_grows : (mg_mt[135 - 1]?).map (fun q => (q.2.2.1, q.2.2.2.2.2.2.1)) = some (3, 0) := by decide +kernel
theorem al_X6_spans : (mg_mt[136 - 1]?).map (fun q => (q.2.2.1, q.2.2.2.2.2.2.1)) = some (5, 0) := by decide +kernel
theorem al_X6_selects : (mg_mt[137 - 1]?).map (fun q => (q.2.2.1, q.2.2.2.2.2.2.1)) = some (1, 0) := by decide +kernel
theorem al_X6_startsAnew : (mg_mt[138 - 1]?).map (fun q => (q.2.2.1, q.2.2.2.2.2.2.1)) = some (1, 0) := by decide +kernel
theorem al_X6_isChosen : (mg_mt[139 - 1]?).map (fun q => (q.2.2.1, q.2.2.2.2.2.2.1)) = some (5, 0) := by decide +kernel
theorem al_X6_rows : (mg_mt[140 - 1]?).map (fun q => (q.2.2.1, q.2.2.2.2.2.2.1)) = some (1, 0) := by decide +kernel
theorem al_X6_columns : (mg_mt[141 - 1]?).map (fun q => (q.2.2.1, q.2.2.2.2.2.2.1)) = some (1, 0) := by decide +kernel
theorem al_X6_cellCount : (mg_mt[142 - 1]?).map (fun q => (q.2.2.1, q.2.2.2.2.2.2.1)) = some (1, 0) := by decide +kernel
theorem al_X6_cellsBySquares : (mg_mt[143 - 1]?).map (fun q => (q.2.2.1, q.2.2.2.2.2.2.1)) = some (1, 0) := by decide +kernel
theorem al_X6_putsAside : (mg_mt[144 - 1]?).map (fun q => (q.2.2.1, q.2.2.2.2.2.2.1)) = some (2, 0) := by decide +kernel
theorem al_X6_freshens : (mg_mt[145 - 1]?).map (fun q => (q.2.2.1, q.2.2.2.2.2.2.1)) = some (2, 0) := by decide +kernel
theorem al_X6_insertRow : (mg_mt[146 - 1]?).map (fun q => (q.2.2.1, q.2.2.2.2.2.2.1)) = some (4, 0) := by decide +kernel
theorem al_X6_insertColumn : (mg_mt[147 - 1]?).map (fun q => (q.2.2.1, q.2.2.2.2.2.2.1)) = some (4, 0) := by decide +kernel
theorem al_X6_deleteRow : (mg_mt[148 - 1]?).map (fun q => (q.2.2.1, q.2.2.2.2.2.2.1)) = some (4, 0) := by decide +kernel
theorem al_X6_deleteColumn : (mg_mt[149 - 1]?).map (fun q => (q.2.2.1, q.2.2.2.2.2.2.1)) = some (4, 0) := by decide +kernel
theorem al_X6_isTied : (mg_mt[150 - 1]?).map (fun q => (q.2.2.1, q.2.2.2.2.2.2.1)) = some (6, 0) := by decide +kernel
theorem al_X6_exchanges : (mg_mt[151 - 1]?).map (fun q => (q.2.2.1, q.2.2.2.2.2.2.1)) = some (5, 0) := by decide +kernel
theorem al_X6_moveRow : (mg_mt[152 - 1]?).map (fun q => (q.2.2.1, q.2.2.2.2.2.2.1)) = some (6, 0) := by decide +kernel
theorem al_X6_failsSquare : (mg_mt[153 - 1]?).map (fun q => (q.2.2.1, q.2.2.2.2.2.2.1)) = some (3, 0) := by decide +kernel
theorem al_X6_topRow : (mg_mt[154 - 1]?).map (fun q => (q.2.2.1, q.2.2.2.2.2.2.1)) = some (5, 0) := by decide +kernel
theorem al_X6_leftCol : (mg_mt[155 - 1]?).map (fun q => (q.2.2.1, q.2.2.2.2.2.2.1)) = some (5, 0) := by decide +kernel
theorem al_X6_rowMany : (mg_mt[156 - 1]?).map (fun q => (q.2.2.1, q.2.2.2.2.2.2.1)) = some (5, 0) := by decide +kernel
theorem al_X6_colMany : (mg_mt[157 - 1]?).map (fun q => (q.2.2.1, q.2.2.2.2.2.2.1)) = some (5, 0) := by decide +kernel
theorem al_X6_topOf : (mg_mt[158 - 1]?).map (fun q => (q.2.2.1, q.2.2.2.2.2.2.1)) = some (3, 0) := by decide +kernel
theorem al_X6_leftOf : (mg_mt[159 - 1]?).map (fun q => (q.2.2.1, q.2.2.2.2.2.2.1)) = some (3, 0) := by decide +kernel
theorem al_X6_rowsOf : (mg_mt[160 - 1]?).map (fun q => (q.2.2.1, q.2.2.2.2.2.2.1)) = some (3, 0) := by decide +kernel
theorem al_X6_columnsOf : (mg_mt[161 - 1]?).map (fun q => (q.2.2.1, q.2.2.2.2.2.2.1)) = some (3, 0) := by decide +kernel
theorem al_X6_contentAt : (mg_mt[162 - 1]?).map (fun q => (q.2.2.1, q.2.2.2.2.2.2.1)) = some (3, 0) := by decide +kernel
theorem al_X6_styleAt : (mg_mt[163 - 1]?).map (fun q => (q.2.2.1, q.2.2.2.2.2.2.1)) = some (3, 0) := by decide +kernel
theorem al_X6_setContent : (mg_mt[164 - 1]?).map (fun q => (q.2.2.1, q.2.2.2.2.2.2.1)) = some (5, 0) := by decide +kernel
theorem al_X6_setStyle : (mg_mt[165 - 1]?).map (fun q => (q.2.2.1, q.2.2.2.2.2.2.1)) = some (4, 0) := by decide +kernel
theorem al_X6_failsTwo : (mg_mt[166 - 1]?).map (fun q => (q.2.2.1, q.2.2.2.2.2.2.1)) = some (5, 0) := by decide +kernel
theorem al_X6_select : (mg_mt[167 - 1]?).map (fun q => (q.2.2.1, q.2.2.2.2.2.2.1)) = some (5, 0) := by decide +kernel
theorem al_X6_selected : (mg_mt[168 - 1]?).map (fun q => (q.2.2.1, q.2.2.2.2.2.2.1)) = some (3, 0) := by decide +kernel
theorem al_X6_chosen : (mg_mt[169 - 1]?).map (fun q => (q.2.2.1, q.2.2.2.2.2.2.1)) = some (3, 0) := by decide +kernel
theorem al_X6_selectedCells : (mg_mt[170 - 1]?).map (fun q => (q.2.2.1, q.2.2.2.2.2.2.1)) = some (1, 0) := by decide +kernel
theorem al_X6_squaresFor : (mg_mt[171 - 1]?).map (fun q => (q.2.2.1, q.2.2.2.2.2.2.1)) = some (5, 0) := by decide +kernel
theorem al_X6_filled : (mg_mt[172 - 1]?).map (fun q => (q.2.2.1, q.2.2.2.2.2.2.1)) = some (3, 0) := by decide +kernel
theorem al_X6_chosenSum : (mg_mt[173 - 1]?).map (fun q => (q.2.2.1, q.2.2.2.2.2.2.1)) = some (3, 0) := by decide +kernel
theorem al_X6_merge : (mg_mt[174 - 1]?).map (fun q => (q.2.2.1, q.2.2.2.2.2.2.1)) = some (6, 0) := by decide +kernel
theorem al_X6_split : (mg_mt[175 - 1]?).map (fun q => (q.2.2.1, q.2.2.2.2.2.2.1)) = some (8, 0) := by decide +kernel
theorem al_X6_parts : (mg_mt[176 - 1]?).map (fun q => (q.2.2.1, q.2.2.2.2.2.2.1)) = some (6, 0) := by decide +kernel
theorem al_X6_beginOf : (mg_mt[177 - 1]?).map (fun q => (q.2.2.1, q.2.2.2.2.2.2.1)) = some (9, 0) := by decide +kernel
theorem al_X6_placed : (mg_mt[178 - 1]?).map (fun q => (q.2.2.1, q.2.2.2.2.2.2.1)) = some (7, 0) := by decide +kernel
theorem al_X6_spreads : (mg_mt[179 - 1]?).map (fun q => (q.2.2.1, q.2.2.2.2.2.2.1)) = some (5, 0) := by decide +kernel
theorem al_X6_clear : (mg_mt[180 - 1]?).map (fun q => (q.2.2.1, q.2.2.2.2.2.2.1)) = some (3, 0) := by decide +kernel
theorem al_X6_copy : (mg_mt[181 - 1]?).map (fun q => (q.2.2.1, q.2.2.2.2.2.2.1)) = some (3, 0) := by decide +kernel
theorem al_X6_isParted : (mg_mt[182 - 1]?).map (fun q => (q.2.2.1, q.2.2.2.2.2.2.1)) = some (6, 0) := by decide +kernel
theorem al_X6_isAnyCut : (mg_mt[183 - 1]?).map (fun q => (q.2.2.1, q.2.2.2.2.2.2.1)) = some (3, 0) := by decide +kernel
theorem al_X6_paste : (mg_mt[184 - 1]?).map (fun q => (q.2.2.1, q.2.2.2.2.2.2.1)) = some (6, 0) := by decide +kernel
theorem al_X6_lays : (mg_mt[185 - 1]?).map (fun q => (q.2.2.1, q.2.2.2.2.2.2.1)) = some (5, 0) := by decide +kernel
theorem al_X6_oldBegin : (mg_mt[186 - 1]?).map (fun q => (q.2.2.1, q.2.2.2.2.2.2.1)) = some (4, 0) := by decide +kernel
theorem al_X6_pastedBegin : (mg_mt[187 - 1]?).map (fun q => (q.2.2.1, q.2.2.2.2.2.2.1)) = some (6, 0) := by decide +kernel
theorem al_X6_isTiedAt : (mg_mt[188 - 1]?).map (fun q => (q.2.2.1, q.2.2.2.2.2.2.1)) = some (4, 0) := by decide +kernel
theorem al_X6_setHeader : (mg_mt[189 - 1]?).map (fun q => (q.2.2.1, q.2.2.2.2.2.2.1)) = some (3, 0) := by decide +kernel
theorem al_X6_header : (mg_mt[190 - 1]?).map (fun q => (q.2.2.1, q.2.2.2.2.2.2.1)) = some (1, 0) := by decide +kernel
theorem al_X6_sort : (mg_mt[191 - 1]?).map (fun q => (q.2.2.1, q.2.2.2.2.2.2.1)) = some (8, 0) := by decide +kernel
theorem al_X6_isCol : (mg_mt[192 - 1]?).map (fun q => (q.2.2.1, q.2.2.2.2.2.2.1)) = some (2, 0) := by decide +kernel
theorem al_X6_widthOf : (mg_mt[193 - 1]?).map (fun q => (q.2.2.1, q.2.2.2.2.2.2.1)) = some (2, 0) := by decide +kernel
theorem al_X6_heightOf : (mg_mt[194 - 1]?).map (fun q => (q.2.2.1, q.2.2.2.2.2.2.1)) = some (2, 0) := by decide +kernel
theorem al_X6_setWidth : (mg_mt[195 - 1]?).map (fun q => (q.2.2.1, q.2.2.2.2.2.2.1)) = some (4, 0) := by decide +kernel
theorem al_X6_setHeight : (mg_mt[196 - 1]?).map (fun q => (q.2.2.1, q.2.2.2.2.2.2.1)) = some (4, 0) := by decide +kernel
theorem al_X6_drag : (mg_mt[197 - 1]?).map (fun q => (q.2.2.1, q.2.2.2.2.2.2.1)) = some (4, 0) := by decide +kernel
theorem al_X6_even : (mg_mt[198 - 1]?).map (fun q => (q.2.2.1, q.2.2.2.2.2.2.1)) = some (6, 0) := by decide +kernel
theorem al_X6_sizeOf : (mg_mt[199 - 1]?).map (fun q => (q.2.2.1, q.2.2.2.2.2.2.1)) = some (7, 0) := by decide +kernel
theorem al_X6_cellAt : (mg_mt[200 - 1]?).map (fun q => (q.2.2.1, q.2.2.2.2.2.2.1)) = some (7, 0) := by decide +kernel
theorem al_X6_changes : (mg_mt[201 - 1]?).map (fun q => (q.2.2.1, q.2.2.2.2.2.2.1)) = some (5, 0) := by decide +kernel
theorem al_X6_takeBack : (mg_mt[202 - 1]?).map (fun q => (q.2.2.1, q.2.2.2.2.2.2.1)) = some (3, 0) := by decide +kernel
theorem al_X6_sum : (mg_mt[203 - 1]?).map (fun q => (q.2.2.1, q.2.2.2.2.2.2.1)) = some (1, 0) := by decide +kernel
theorem al_X6_mean : (mg_mt[204 - 1]?).map (fun q => (q.2.2.1, q.2.2.2.2.2.2.1)) = some (1, 0) := by decide +kernel
theorem al_X6_mergedShare : (mg_mt[205 - 1]?).map (fun q => (q.2.2.1, q.2.2.2.2.2.2.1)) = some (4, 0) := by decide +kernel
theorem al_X6_isTiled : (mg_mt[206 - 1]?).map (fun q => (q.2.2.1, q.2.2.2.2.2.2.1)) = some (1, 0) := by decide +kernel
theorem al_L_insertRow : (mg_mt[207 - 1]?).map (fun q => (q.2.2.1, q.2.2.2.2.2.2.1)) = some (4, 1) := by decide +kernel
theorem al_L_insertColumn : (mg_mt[208 - 1]?).map (fun q => (q.2.2.1, q.2.2.2.2.2.2.1)) = some (4, 1) := by decide +kernel
theorem al_L_deleteRow : (mg_mt[209 - 1]?).map (fun q => (q.2.2.1, q.2.2.2.2.2.2.1)) = some (4, 2) := by decide +kernel
theorem al_L_deleteColumn : (mg_mt[210 - 1]?).map (fun q => (q.2.2.1, q.2.2.2.2.2.2.1)) = some (4, 2) := by decide +kernel
theorem al_L_moveRow : (mg_mt[211 - 1]?).map (fun q => (q.2.2.1, q.2.2.2.2.2.2.1)) = some (5, 3) := by decide +kernel
theorem al_L_topOf : (mg_mt[212 - 1]?).map (fun q => (q.2.2.1, q.2.2.2.2.2.2.1)) = some (5, 2) := by decide +kernel
theorem al_L_leftOf : (mg_mt[213 - 1]?).map (fun q => (q.2.2.1, q.2.2.2.2.2.2.1)) = some (5, 2) := by decide +kernel
theorem al_L_rowsOf : (mg_mt[214 - 1]?).map (fun q => (q.2.2.1, q.2.2.2.2.2.2.1)) = some (5, 2) := by decide +kernel
theorem al_L_columnsOf : (mg_mt[215 - 1]?).map (fun q => (q.2.2.1, q.2.2.2.2.2.2.1)) = some (5, 2) := by decide +kernel
theorem al_L_contentAt : (mg_mt[216 - 1]?).map (fun q => (q.2.2.1, q.2.2.2.2.2.2.1)) = some (5, 2) := by decide +kernel
theorem al_L_styleAt : (mg_mt[217 - 1]?).map (fun q => (q.2.2.1, q.2.2.2.2.2.2.1)) = some (5, 2) := by decide +kernel
theorem al_L_setContent : (mg_mt[218 - 1]?).map (fun q => (q.2.2.1, q.2.2.2.2.2.2.1)) = some (6, 3) := by decide +kernel
theorem al_L_setStyle : (mg_mt[219 - 1]?).map (fun q => (q.2.2.1, q.2.2.2.2.2.2.1)) = some (4, 1) := by decide +kernel
theorem al_L_select : (mg_mt[220 - 1]?).map (fun q => (q.2.2.1, q.2.2.2.2.2.2.1)) = some (7, 4) := by decide +kernel
theorem al_L_selected : (mg_mt[221 - 1]?).map (fun q => (q.2.2.1, q.2.2.2.2.2.2.1)) = some (4, 1) := by decide +kernel
theorem al_L_squaresFor : (mg_mt[222 - 1]?).map (fun q => (q.2.2.1, q.2.2.2.2.2.2.1)) = some (7, 4) := by decide +kernel
theorem al_L_merge : (mg_mt[223 - 1]?).map (fun q => (q.2.2.1, q.2.2.2.2.2.2.1)) = some (3, 1) := by decide +kernel
theorem al_L_split : (mg_mt[224 - 1]?).map (fun q => (q.2.2.1, q.2.2.2.2.2.2.1)) = some (6, 3) := by decide +kernel
theorem al_L_clear : (mg_mt[225 - 1]?).map (fun q => (q.2.2.1, q.2.2.2.2.2.2.1)) = some (3, 1) := by decide +kernel
theorem al_L_paste : (mg_mt[226 - 1]?).map (fun q => (q.2.2.1, q.2.2.2.2.2.2.1)) = some (7, 3) := by decide +kernel
theorem al_L_setHeader : (mg_mt[227 - 1]?).map (fun q => (q.2.2.1, q.2.2.2.2.2.2.1)) = some (4, 1) := by decide +kernel
theorem al_L_sort : (mg_mt[228 - 1]?).map (fun q => (q.2.2.1, q.2.2.2.2.2.2.1)) = some (5, 2) := by decide +kernel
theorem al_L_widthOf : (mg_mt[229 - 1]?).map (fun q => (q.2.2.1, q.2.2.2.2.2.2.1)) = some (4, 1) := by decide +kernel
theorem al_L_heightOf : (mg_mt[230 - 1]?).map (fun q => (q.2.2.1, q.2.2.2.2.2.2.1)) = some (4, 1) := by decide +kernel
theorem al_L_setWidth : (mg_mt[231 - 1]?).map (fun q => (q.2.2.1, q.2.2.2.2.2.2.1)) = some (5, 2) := by decide +kernel
theorem al_L_setHeight : (mg_mt[232 - 1]?).map (fun q => (q.2.2.1, q.2.2.2.2.2.2.1)) = some (5, 2) := by decide +kernel
theorem al_L_drag : (mg_mt[233 - 1]?).map (fun q => (q.2.2.1, q.2.2.2.2.2.2.1)) = some (5, 2) := by decide +kernel
theorem al_L_even : (mg_mt[234 - 1]?).map (fun q => (q.2.2.1, q.2.2.2.2.2.2.1)) = some (5, 3) := by decide +kernel
theorem al_L_sizeOf : (mg_mt[235 - 1]?).map (fun q => (q.2.2.1, q.2.2.2.2.2.2.1)) = some (5, 2) := by decide +kernel
theorem al_L_cellAt : (mg_mt[236 - 1]?).map (fun q => (q.2.2.1, q.2.2.2.2.2.2.1)) = some (5, 1) := by decide +kernel
theorem al_L_takeBack : (mg_mt[237 - 1]?).map (fun q => (q.2.2.1, q.2.2.2.2.2.2.1)) = some (3, 1) := by decide +kernel
theorem al_L_mean : (mg_mt[238 - 1]?).map (fun q => (q.2.2.1, q.2.2.2.2.2.2.1)) = some (3, 1) := by decide +kernel
end
section
/-! the memory's reads behind its writes -/
theorem gi_si {M : mg_M} {a k b j : Nat} {x : Int} : gi (si M a k x) b j = if b = a ∧ j = k then x else gi M b j := rfl
theorem kd_si {M : mg_M} {a k b : Nat} {x : Int} : kd (si M a k x) b = kd M b := rfl
theorem ln_si {M : mg_M} {a k b : Nat} {x : Int} : ln (si M a k x) b = ln M b := rfl
theorem gr_si {M : mg_M} {a k b j : Nat} {x : Int} : gr (si M a k x) b j = gr M b j := rfl
theorem gl_si {M : mg_M} {a k b j : Nat} {x : Int} : gl (si M a k x) b j = gl M b j := rfl
theorem gd_si {M : mg_M} {a k b j : Nat} {x : Int} : gd (si M a k x) b j = gd M b j := rfl
theorem nx_si {M : mg_M} {a k : Nat} {x : Int} : nx (si M a k x) = nx M := rfl
theorem gr_sr {M : mg_M} {a k b j : Nat} {x : Nat} : gr (sr M a k x) b j = if b = a ∧ j = k then x else gr M b j := rfl
theorem kd_sr {M : mg_M} {a k b : Nat} {x : Nat} : kd (sr M a k x) b = kd M b := rfl
theorem ln_sr {M : mg_M} {a k b : Nat} {x : Nat} : ln (sr M a k x) b = ln M b := rfl
theorem gi_sr {M : mg_M} {a k b j : Nat} {x : Nat} : gi (sr M a k x) b j = gi M b j := rfl
theorem nx_sr {M : mg_M} {a k : Nat} {x : Nat} : nx (sr M a k x) = nx M := rfl
theorem gi_cpy {M : mg_M} {s d n b j : Nat} : gi (cpy M s d n) b j = if b = d ∧ j < n then gi M s j else gi M b j := rfl
theorem kd_cpy {M : mg_M} {s d n b : Nat} : kd (cpy M s d n) b = kd M b := rfl
theorem ln_cpy {M : mg_M} {s d n b : Nat} : ln (cpy M s d n) b = ln M b := rfl
theorem gr_cpy {M : mg_M} {s d n b j : Nat} : gr (cpy M s d n) b j = gr M b j := rfl
theorem nx_cpy {M : mg_M} {s d n : Nat} : nx (cpy M s d n) = nx M := rfl
theorem mg_of2 {D : mg_D} {l : Launch} (hl : l.stackTraces = false) {y nL B : Nat} {C : mg_C} (hok : mg_chkM y C = true) (hal : (mg_mt[y - 1]?).map (fun q => (q.2.2.1, q.2.2.2.2.2.2.1)) = some (nL, B)) {as : List mg_V} {M : mg_M} {N : mg_O} {X : mg_X} (hsl : Nat.ble (mg_slots as) nL = true)
    (h : ∀ K : mg_K, (∀ pc ls st M B, mg_ev C (mg_Mt D l) N X K 1000 false pc ls st M B → K pc ls st M B) → K 0 (mg_ent 0 as) [] M B) : mg_Mt D l y as M N X := by
  refine mg_of hl hok (fun q hq => ?_) (fun K hK q hq => ?_)
  · rw [hq] at hal
    have h1 := Option.some.inj hal
    rw [show q.2.2.1 = nL from congrArg Prod.fst h1]
    exact Nat.le_of_ble_eq_true hsl
  · rw [hq] at hal
    have h1 := Option.some.inj hal
    rw [show q.2.2.2.2.2.2.1 = B from congrArg Prod.snd h1]
    exact h K hK
def mg_no : mg_X := fun _ _ => False
end
section
theorem cX2_lie {D : mg_D} {l : Launch} (hl : l.stackTraces = false) {M : mg_M} {a : Nat} {r c d e : Int} (ha : kd M a = 3) : mg_Mt D l 2 [.inr (.inl a), .inl r, .inl c, .inl d, .inl e] M (fun v M' => v = none ∧ M' = si (si (si (si M a 0 r) a 1 c) a 2 d) a 3 e) mg_no := by
  refine mg_of2 hl ok_X2_lie al_X2_lie rfl (fun K hK => ?_)
  refine hK _ _ _ _ _ ?_
  (repeat' ((conv => whnf); first | exact And.intro rfl rfl | refine And.intro (by first | assumption | omega) ?_ | refine And.intro (fun _ => ?_) (fun _ => ?_) | fail))
theorem cX2_fill {D : mg_D} {l : Launch} (hl : l.stackTraces = false) {M : mg_M} {a : Nat} {r c : Int} (ha : kd M a = 3) : mg_Mt D l 3 [.inr (.inl a), .inl r, .inl c] M (fun v M' => v = none ∧ M' = si (si M a 4 r) a 5 c) mg_no := by
  refine mg_of2 hl ok_X2_fill al_X2_fill rfl (fun K hK => ?_)
  refine hK _ _ _ _ _ ?_
  (repeat' ((conv => whnf); first | exact And.intro rfl rfl | refine And.intro (by first | assumption | omega) ?_ | refine And.intro (fun _ => ?_) (fun _ => ?_) | fail))
def mg_put6 (M : mg_M) (a : Nat) (t c h w x y : Int) : mg_M := si (si (si (si (si (si M a 0 t) a 1 c) a 2 h) a 3 w) a 4 x) a 5 y
theorem cX2_become {D : mg_D} {l : Launch} (hl : l.stackTraces = false) {M : mg_M} {a b : Nat} (ha : kd M a = 3) (hb : kd M b = 3) (hab : a ≠ b) : mg_Mt D l 4 [.inr (.inl a), .inr (.inl b)] M (fun v M' => v = none ∧ M' = mg_put6 M a (gi M b 0) (gi M b 1) (gi M b 2) (gi M b 3) (gi M b 4) (gi M b 5)) mg_no := by
  refine mg_of2 hl ok_X2_become al_X2_become rfl (fun K hK => ?_)
  refine hK _ _ _ _ _ ?_
  (repeat' ((conv => whnf); first | exact And.intro rfl rfl | refine And.intro (by first | assumption | omega) ?_ | refine And.intro (fun _ => ?_) (fun _ => ?_) | fail))
  all_goals (try ((conv => whnf); (refine Exists.intro _ (Exists.intro _ (And.intro (cX2_lie hl ha) (And.intro ?_ (fun _ _ h => h.elim)))); rintro _ _ ⟨rfl, rfl⟩); (repeat' ((conv => whnf); first | exact And.intro rfl rfl | refine And.intro (by first | assumption | omega) ?_ | refine And.intro (fun _ => ?_) (fun _ => ?_) | fail))))
  all_goals (try ((conv => whnf); (refine Exists.intro _ (Exists.intro _ (And.intro (cX2_fill hl ha) (And.intro ?_ (fun _ _ h => h.elim)))); rintro _ _ ⟨rfl, rfl⟩); (repeat' ((conv => whnf); first | exact And.intro rfl rfl | refine And.intro (by first | assumption | omega) ?_ | refine And.intro (fun _ => ?_) (fun _ => ?_) | fail))))
  all_goals (simp only [gi_si, hab.symm, false_and, if_false, mg_put6]; exact And.intro rfl rfl)
def mg_sm (M : mg_M) (a : Nat) : Prop := kd M a = 3 ∧ (-1000 ≤ gi M a 0 ∧ gi M a 0 ≤ 1000 ∧ -1000 ≤ gi M a 2 ∧ gi M a 2 ≤ 1000) ∧ (-1000 ≤ gi M a 1 ∧ gi M a 1 ≤ 1000 ∧ -1000 ≤ gi M a 3 ∧ gi M a 3 ≤ 1000)
theorem cX2_bottom {D : mg_D} {l : Launch} (hl : l.stackTraces = false) {M : mg_M} {a : Nat} (h : mg_sm M a) : mg_Mt D l 5 [.inr (.inl a)] M (fun v M' => v = some (.inl (gi M a 0 + gi M a 2 - 1)) ∧ M' = M) mg_no := by
  refine mg_of2 hl ok_X2_bottom al_X2_bottom rfl (fun K hK => ?_)
  obtain ⟨h1, h2, h3⟩ := h
  refine hK _ _ _ _ _ ?_
  (repeat' ((conv => whnf); first | exact And.intro rfl rfl | refine And.intro (by first | assumption | omega) ?_ | refine And.intro (fun _ => ?_) (fun _ => ?_) | fail))
theorem cX2_right {D : mg_D} {l : Launch} (hl : l.stackTraces = false) {M : mg_M} {a : Nat} (h : mg_sm M a) : mg_Mt D l 6 [.inr (.inl a)] M (fun v M' => v = some (.inl (gi M a 1 + gi M a 3 - 1)) ∧ M' = M) mg_no := by
  refine mg_of2 hl ok_X2_right al_X2_right rfl (fun K hK => ?_)
  obtain ⟨h1, h2, h3⟩ := h
  refine hK _ _ _ _ _ ?_
  (repeat' ((conv => whnf); first | exact And.intro rfl rfl | refine And.intro (by first | assumption | omega) ?_ | refine And.intro (fun _ => ?_) (fun _ => ?_) | fail))
theorem cX2_isAcross {D : mg_D} {l : Launch} (hl : l.stackTraces = false) {M : mg_M} {a : Nat} {r : Int} (h : mg_sm M a) : mg_Mt D l 9 [.inr (.inl a), .inl r] M (fun v M' => v = some (.inl (if gi M a 0 < r ∧ r ≤ gi M a 0 + gi M a 2 - 1 then 1 else 0)) ∧ M' = M) mg_no := by
  refine mg_of2 hl ok_X2_isAcross al_X2_isAcross rfl (fun K hK => ?_)
  have h' := h
  obtain ⟨h1, h2, h3⟩ := h
  refine hK _ _ _ _ _ ?_
  (repeat' ((conv => whnf); first | exact And.intro rfl rfl | refine And.intro (by first | assumption | omega) ?_ | refine And.intro (fun _ => ?_) (fun _ => ?_) | fail))
  all_goals (try ((conv => whnf); (refine Exists.intro _ (Exists.intro _ (And.intro (cX2_bottom hl h') (And.intro ?_ (fun _ _ h => h.elim)))); rintro _ _ ⟨rfl, rfl⟩); (repeat' ((conv => whnf); first | exact And.intro rfl rfl | refine And.intro (by first | assumption | omega) ?_ | refine And.intro (fun _ => ?_) (fun _ => ?_) | fail))))
  all_goals (refine And.intro ?_ ?_ <;> first | rfl | ((repeat' split) <;> first | rfl | omega))
theorem cX2_makeRoomForRow {D : mg_D} {l : Launch} (hl : l.stackTraces = false) {M : mg_M} {a : Nat} {r : Int} (h : mg_sm M a) : mg_Mt D l 10 [.inr (.inl a), .inl r] M (fun v M' => v = none ∧ M' = if r ≤ gi M a 0 then si M a 0 (gi M a 0 + 1) else if r ≤ gi M a 0 + gi M a 2 - 1 then si M a 2 (gi M a 2 + 1) else M) mg_no := by
  refine mg_of2 hl ok_X2_makeRoomForRow al_X2_makeRoomForRow rfl (fun K hK => ?_)
  have h' := h
  obtain ⟨h1, h2, h3⟩ := h
  refine hK _ _ _ _ _ ?_
  (repeat' ((conv => whnf); first | exact And.intro rfl rfl | refine And.intro (by first | assumption | omega) ?_ | refine And.intro (fun _ => ?_) (fun _ => ?_) | fail))
  all_goals (try ((conv => whnf); (refine Exists.intro _ (Exists.intro _ (And.intro (cX2_bottom hl h') (And.intro ?_ (fun _ _ h => h.elim)))); rintro _ _ ⟨rfl, rfl⟩); (repeat' ((conv => whnf); first | exact And.intro rfl rfl | refine And.intro (by first | assumption | omega) ?_ | refine And.intro (fun _ => ?_) (fun _ => ?_) | fail))))
  all_goals (refine And.intro ?_ ?_ <;> first | rfl | ((repeat' split) <;> first | rfl | omega))
theorem cX2_makeRoomForColumn {D : mg_D} {l : Launch} (hl : l.stackTraces = false) {M : mg_M} {a : Nat} {r : Int} (h : mg_sm M a) : mg_Mt D l 11 [.inr (.inl a), .inl r] M (fun v M' => v = none ∧ M' = if r ≤ gi M a 1 then si M a 1 (gi M a 1 + 1) else if r ≤ gi M a 1 + gi M a 3 - 1 then si M a 3 (gi M a 3 + 1) else M) mg_no := by
  refine mg_of2 hl ok_X2_makeRoomForColumn al_X2_makeRoomForColumn rfl (fun K hK => ?_)
  have h' := h
  obtain ⟨h1, h2, h3⟩ := h
  refine hK _ _ _ _ _ ?_
  (repeat' ((conv => whnf); first | exact And.intro rfl rfl | refine And.intro (by first | assumption | omega) ?_ | refine And.intro (fun _ => ?_) (fun _ => ?_) | fail))
  all_goals (try ((conv => whnf); (refine Exists.intro _ (Exists.intro _ (And.intro (cX2_right hl h') (And.intro ?_ (fun _ _ h => h.elim)))); rintro _ _ ⟨rfl, rfl⟩); (repeat' ((conv => whnf); first | exact And.intro rfl rfl | refine And.intro (by first | assumption | omega) ?_ | refine And.intro (fun _ => ?_) (fun _ => ?_) | fail))))
  all_goals (refine And.intro ?_ ?_ <;> first | rfl | ((repeat' split) <;> first | rfl | omega))
theorem cX2_loseRow {D : mg_D} {l : Launch} (hl : l.stackTraces = false) {M : mg_M} {a : Nat} {r : Int} (h : mg_sm M a) : mg_Mt D l 12 [.inr (.inl a), .inl r] M (fun v M' => v = none ∧ M' = if r < gi M a 0 then si M a 0 (gi M a 0 - 1) else if r ≤ gi M a 0 + gi M a 2 - 1 then si M a 2 (gi M a 2 - 1) else M) mg_no := by
  refine mg_of2 hl ok_X2_loseRow al_X2_loseRow rfl (fun K hK => ?_)
  have h' := h
  obtain ⟨h1, h2, h3⟩ := h
  refine hK _ _ _ _ _ ?_
  (repeat' ((conv => whnf); first | exact And.intro rfl rfl | refine And.intro (by first | assumption | omega) ?_ | refine And.intro (fun _ => ?_) (fun _ => ?_) | fail))
  all_goals (try ((conv => whnf); (refine Exists.intro _ (Exists.intro _ (And.intro (cX2_bottom hl h') (And.intro ?_ (fun _ _ h => h.elim)))); rintro _ _ ⟨rfl, rfl⟩); (repeat' ((conv => whnf); first | exact And.intro rfl rfl | refine And.intro (by first | assumption | omega) ?_ | refine And.intro (fun _ => ?_) (fun _ => ?_) | fail))))
  all_goals (refine And.intro ?_ ?_ <;> first | rfl | ((repeat' split) <;> first | rfl | omega))
theorem cX2_loseColumn {D : mg_D} {l : Launch} (hl : l.stackTraces = false) {M : mg_M} {a : Nat} {r : Int} (h : mg_sm M a) : mg_Mt D l 13 [.inr (.inl a), .inl r] M (fun v M' => v = none ∧ M' = if r < gi M a 1 then si M a 1 (gi M a 1 - 1) else if r ≤ gi M a 1 + gi M a 3 - 1 then si M a 3 (gi M a 3 - 1) else M) mg_no := by
  refine mg_of2 hl ok_X2_loseColumn al_X2_loseColumn rfl (fun K hK => ?_)
  have h' := h
  obtain ⟨h1, h2, h3⟩ := h
  refine hK _ _ _ _ _ ?_
  (repeat' ((conv => whnf); first | exact And.intro rfl rfl | refine And.intro (by first | assumption | omega) ?_ | refine And.intro (fun _ => ?_) (fun _ => ?_) | fail))
  all_goals (try ((conv => whnf); (refine Exists.intro _ (Exists.intro _ (And.intro (cX2_right hl h') (And.intro ?_ (fun _ _ h => h.elim)))); rintro _ _ ⟨rfl, rfl⟩); (repeat' ((conv => whnf); first | exact And.intro rfl rfl | refine And.intro (by first | assumption | omega) ?_ | refine And.intro (fun _ => ?_) (fun _ => ?_) | fail))))
  all_goals (refine And.intro ?_ ?_ <;> first | rfl | ((repeat' split) <;> first | rfl | omega))
theorem cX2_isWithin {D : mg_D} {l : Launch} (hl : l.stackTraces = false) {M : mg_M} {a b : Nat} (h : mg_sm M a) (hb : kd M b = 1) : mg_Mt D l 7 [.inr (.inl a), .inr (.inl b)] M (fun v M' => v = some (.inl (if gi M b 0 ≤ gi M a 0 ∧ gi M a 0 + gi M a 2 - 1 ≤ gi M b 2 ∧ gi M b 1 ≤ gi M a 1 ∧ gi M a 1 + gi M a 3 - 1 ≤ gi M b 3 then 1 else 0)) ∧ M' = M) mg_no := by
  refine mg_of2 hl ok_X2_isWithin al_X2_isWithin rfl (fun K hK => ?_)
  have h' := h
  obtain ⟨h1, h2, h3⟩ := h
  refine hK _ _ _ _ _ ?_
  (repeat' ((conv => whnf); first | exact And.intro rfl rfl | refine And.intro (by first | assumption | omega) ?_ | refine And.intro (fun _ => ?_) (fun _ => ?_) | fail))
  all_goals (try ((conv => whnf); (refine Exists.intro _ (Exists.intro _ (And.intro (cX2_bottom hl h') (And.intro ?_ (fun _ _ h => h.elim)))); rintro _ _ ⟨rfl, rfl⟩); (repeat' ((conv => whnf); first | exact And.intro rfl rfl | refine And.intro (by first | assumption | omega) ?_ | refine And.intro (fun _ => ?_) (fun _ => ?_) | fail))))
  all_goals (try ((conv => whnf); (refine Exists.intro _ (Exists.intro _ (And.intro (cX2_right hl h') (And.intro ?_ (fun _ _ h => h.elim)))); rintro _ _ ⟨rfl, rfl⟩); (repeat' ((conv => whnf); first | exact And.intro rfl rfl | refine And.intro (by first | assumption | omega) ?_ | refine And.intro (fun _ => ?_) (fun _ => ?_) | fail))))
  all_goals (refine And.intro ?_ ?_ <;> first | rfl | ((repeat' split) <;> first | rfl | omega))
theorem cX2_meets {D : mg_D} {l : Launch} (hl : l.stackTraces = false) {M : mg_M} {a b : Nat} (h : mg_sm M a) (hb : kd M b = 1) : mg_Mt D l 8 [.inr (.inl a), .inr (.inl b)] M (fun v M' => v = some (.inl (if gi M a 0 ≤ gi M b 2 ∧ gi M b 0 ≤ gi M a 0 + gi M a 2 - 1 ∧ gi M a 1 ≤ gi M b 3 ∧ gi M b 1 ≤ gi M a 1 + gi M a 3 - 1 then 1 else 0)) ∧ M' = M) mg_no := by
  refine mg_of2 hl ok_X2_meets al_X2_meets rfl (fun K hK => ?_)
  have h' := h
  obtain ⟨h1, h2, h3⟩ := h
  refine hK _ _ _ _ _ ?_
  (repeat' ((conv => whnf); first | exact And.intro rfl rfl | refine And.intro (by first | assumption | omega) ?_ | refine And.intro (fun _ => ?_) (fun _ => ?_) | fail))
  all_goals (try ((conv => whnf); (refine Exists.intro _ (Exists.intro _ (And.intro (cX2_bottom hl h') (And.intro ?_ (fun _ _ h => h.elim)))); rintro _ _ ⟨rfl, rfl⟩); (repeat' ((conv => whnf); first | exact And.intro rfl rfl | refine And.intro (by first | assumption | omega) ?_ | refine And.intro (fun _ => ?_) (fun _ => ?_) | fail))))
  all_goals (try ((conv => whnf); (refine Exists.intro _ (Exists.intro _ (And.intro (cX2_right hl h') (And.intro ?_ (fun _ _ h => h.elim)))); rintro _ _ ⟨rfl, rfl⟩); (repeat' ((conv => whnf); first | exact And.intro rfl rfl | refine And.intro (by first | assumption | omega) ?_ | refine And.intro (fun _ => ?_) (fun _ => ?_) | fail))))
  all_goals (refine And.intro ?_ ?_ <;> first | rfl | ((repeat' split) <;> first | rfl | omega))
end
section
def mg_put4 (M : mg_M) (a : Nat) (t c h w : Int) : mg_M := si (si (si (si M a 0 t) a 1 c) a 2 h) a 3 w
theorem cX0_span {D : mg_D} {l : Launch} (hl : l.stackTraces = false) {M : mg_M} {a : Nat} {r c d e : Int} (ha : kd M a = 1) : mg_Mt D l 15 [.inr (.inl a), .inl r, .inl c, .inl d, .inl e] M (fun v M' => v = none ∧ M' = mg_put4 M a (min r d) (min c e) (max r d) (max c e)) mg_no := by
  refine mg_of2 hl ok_X0_span al_X0_span rfl (fun K hK => ?_)
  refine hK _ _ _ _ _ ?_
  (repeat' (first | rfl | ((conv => whnf); first | exact And.intro rfl rfl | refine And.intro (by first | assumption | omega) ?_ | (refine And.intro (fun _ => ?_) (fun _ => ?_) <;> first | (exfalso; omega) | skip) | exact rfl | intro _ | fail)))
  all_goals (refine And.intro ?_ ?_ <;> first | rfl | ((repeat' split) <;> first | rfl | omega))
theorem cX0_squares {D : mg_D} {l : Launch} (hl : l.stackTraces = false) {M : mg_M} {a : Nat} (ha : kd M a = 1) (h1 : -1000 ≤ gi M a 0 ∧ gi M a 0 ≤ 1000 ∧ -1000 ≤ gi M a 2 ∧ gi M a 2 ≤ 1000) (h2 : -1000 ≤ gi M a 1 ∧ gi M a 1 ≤ 1000 ∧ -1000 ≤ gi M a 3 ∧ gi M a 3 ≤ 1000) (h3 : -10000000 ≤ (gi M a 2 - gi M a 0 + 1) * (gi M a 3 - gi M a 1 + 1) ∧ (gi M a 2 - gi M a 0 + 1) * (gi M a 3 - gi M a 1 + 1) ≤ 10000000) : mg_Mt D l 16 [.inr (.inl a)] M (fun v M' => v = some (.inl ((gi M a 2 - gi M a 0 + 1) * (gi M a 3 - gi M a 1 + 1))) ∧ M' = M) mg_no := by
  refine mg_of2 hl ok_X0_squares al_X0_squares rfl (fun K hK => ?_)
  refine hK _ _ _ _ _ ?_
  (repeat' (first | rfl | ((conv => whnf); first | exact And.intro rfl rfl | refine And.intro (by first | assumption | omega) ?_ | (refine And.intro (fun _ => ?_) (fun _ => ?_) <;> first | (exfalso; omega) | skip) | exact rfl | intro _ | fail)))
  all_goals (refine And.intro ?_ ?_ <;> first | rfl | ((repeat' split) <;> first | rfl | omega))
theorem mg_sm_si {M : mg_M} {a b k : Nat} {x : Int} (h : ¬ (b = a)) (g : mg_sm M b) : mg_sm (si M a k x) b := by
  unfold mg_sm at *
  simpa only [gi_si, kd_si, h, false_and, if_false] using g
theorem cX0_takeIn {D : mg_D} {l : Launch} (hl : l.stackTraces = false) {M : mg_M} {a b : Nat} (ha : kd M a = 1) (h : mg_sm M b) : mg_Mt D l 17 [.inr (.inl a), .inr (.inl b)] M (fun v M' => v = none ∧ M' = mg_put4 M a (min (gi M a 0) (gi M b 0)) (min (gi M a 1) (gi M b 1)) (max (gi M a 2) (gi M b 0 + gi M b 2 - 1)) (max (gi M a 3) (gi M b 1 + gi M b 3 - 1))) mg_no := by
  refine mg_of2 hl ok_X0_takeIn al_X0_takeIn rfl (fun K hK => ?_)
  have h' := h
  obtain ⟨h1, h2, h3⟩ := h
  have hab : ¬ (b = a) := fun e => by rw [e] at h1; omega
  refine hK _ _ _ _ _ ?_
  (repeat' (first | rfl | ((conv => whnf); first | exact And.intro rfl rfl | refine And.intro (by first | assumption | omega) ?_ | (refine And.intro (fun _ => ?_) (fun _ => ?_) <;> first | (exfalso; omega) | skip) | exact rfl | intro _ | fail)))
  all_goals (try ((conv => whnf); (refine Exists.intro _ (Exists.intro _ (And.intro (cX2_bottom hl (mg_sm_si hab (mg_sm_si hab h'))) (And.intro ?_ (fun _ _ h => h.elim)))); rintro _ _ ⟨rfl, e⟩; have e2 := e.symm; clear e; subst e2); (repeat' (first | rfl | ((conv => whnf); first | exact And.intro rfl rfl | refine And.intro (by first | assumption | omega) ?_ | (refine And.intro (fun _ => ?_) (fun _ => ?_) <;> first | (exfalso; omega) | skip) | exact rfl | intro _ | fail)))))
  all_goals (try ((conv => whnf); (refine Exists.intro _ (Exists.intro _ (And.intro (cX2_right hl (mg_sm_si hab (mg_sm_si hab (mg_sm_si hab h')))) (And.intro ?_ (fun _ _ h => h.elim)))); rintro _ _ ⟨rfl, e⟩; have e2 := e.symm; clear e; subst e2); (repeat' (first | rfl | ((conv => whnf); first | exact And.intro rfl rfl | refine And.intro (by first | assumption | omega) ?_ | (refine And.intro (fun _ => ?_) (fun _ => ?_) <;> first | (exfalso; omega) | skip) | exact rfl | intro _ | fail)))))
  all_goals (refine And.intro rfl ?_; simp only [gi_si, hab, false_and, if_false, mg_put4]; rfl)
def mg_cL (M : mg_M) (c : Nat) : Prop := kd M c = 4 ∧ gr M c 1 = c + 1 ∧ gr M c 2 = c + 2 ∧ kd M (c + 1) = 9 ∧ ln M (c + 1) = 120 ∧ kd M (c + 2) = 3 ∧ (0 ≤ gi M c 0 ∧ gi M c 0 ≤ 120) ∧ (∀ i : Nat, i < 120 → kd M (gr M (c + 1) i) = 3 ∧ c + 3 ≤ gr M (c + 1) i ∧ gr M (c + 1) i < c + 123) ∧ (∀ i j : Nat, i < 120 → j < 120 → gr M (c + 1) i = gr M (c + 1) j → i = j)
theorem cX3_get {D : mg_D} {l : Launch} (hl : l.stackTraces = false) {M : mg_M} {c : Nat} {i : Int} (h : mg_cL M c) (hi : 0 ≤ i ∧ i < gi M c 0) : mg_Mt D l 19 [.inr (.inl c), .inl i] M (fun v M' => v = some (.inr (.inl (gr M (c + 1) i.toNat))) ∧ M' = M) mg_no := by
  refine mg_of2 hl ok_X3_get al_X3_get rfl (fun K hK => ?_)
  obtain ⟨g1, g2, g3, g4, g5, g6, g7, g8, g9⟩ := h
  have g10 := g8 i.toNat (by omega)
  refine hK _ _ _ _ _ ?_
  (repeat' (first | rfl | ((conv => whnf); first | exact And.intro rfl rfl | refine And.intro (by first | assumption | omega | (simp only [g2, g3, g5]; first | done | assumption | omega)) ?_ | (refine And.intro (fun _ => ?_) (fun _ => ?_) <;> first | (exfalso; omega) | skip) | exact rfl | intro _ | fail)))
def mh_in (M : mg_M) (a b : Nat) : Bool := decide (gi M b 0 ≤ gi M a 0 ∧ gi M a 0 + gi M a 2 - 1 ≤ gi M b 2 ∧ gi M b 1 ≤ gi M a 1 ∧ gi M a 1 + gi M a 3 - 1 ≤ gi M b 3)
def mh_bi (p : Bool) : Int := if p then 1 else 0
theorem mh_bi01 (p : Bool) : mh_bi p = 0 ∨ mh_bi p = 1 := by cases p <;> simp [mh_bi]
theorem mh_bi0 {p : Bool} (h : mh_bi p = 0) : p = false := by cases p <;> simp [mh_bi] at *
theorem mh_bi1 {p : Bool} (h : ¬ (mh_bi p = 0)) : p = true := by cases p <;> simp [mh_bi] at *
theorem cX2_within {D : mg_D} {l : Launch} (hl : l.stackTraces = false) {M : mg_M} {a b : Nat} (h : mg_sm M a) (hb : kd M b = 1) : mg_Mt D l 7 [.inr (.inl a), .inr (.inl b)] M (fun v M' => v = some (.inl (mh_bi (mh_in M a b))) ∧ M' = M) mg_no := by
  have g := cX2_isWithin (D := D) hl h hb
  simpa only [mh_bi, mh_in, decide_eq_true_eq] using g
def mg_cS (M : mg_M) (c : Nat) : Prop := ∀ i : Nat, (i : Int) < gi M c 0 → mg_sm M (gr M (c + 1) i)
theorem mh_bi01le (p : Bool) : 0 ≤ mh_bi p ∧ mh_bi p ≤ 10000 := by cases p <;> simp [mh_bi]
def mh_sum (f : Nat → Int) : Nat → Int
  | 0 => 0
  | n + 1 => mh_sum f n + f n
theorem mh_sum_le {f : Nat → Int} {b : Int} (n : Nat) (h : ∀ i : Nat, i < n → 0 ≤ f i ∧ f i ≤ b) : 0 ≤ mh_sum f n ∧ mh_sum f n ≤ b * n := by
  induction n with
  | zero => exact ⟨Int.le_refl 0, by simp [mh_sum]⟩
  | succ n ih =>
    have e : mh_sum f (n + 1) = mh_sum f n + f n := rfl
    have g := ih (fun i hi => h i (by omega))
    have g2 := h n (by omega)
    have e3 : b * ((n + 1 : Nat) : Int) = b * n + b := by rw [Int.natCast_succ, Int.mul_add, Int.mul_one]
    omega
theorem cX3_countIn {D : mg_D} {l : Launch} (hl : l.stackTraces = false) {M : mg_M} {c b : Nat} (h : mg_cL M c) (hs : mg_cS M c) (hb : kd M b = 1) : mg_Mt D l 25 [.inr (.inl c), .inr (.inl b)] M (fun v M' => v = some (.inl (mh_sum (fun i => mh_bi (mh_in M (gr M (c + 1) i) b)) (gi M c 0).toNat)) ∧ M' = M) mg_no := by
  refine mg_of2 hl ok_X3_countIn al_X3_countIn rfl (fun K hK => ?_)
  have h' := h
  obtain ⟨g1, g2, g3, g4, g5, g6, g7, g8, g9⟩ := h
  refine hK _ _ _ _ _ ?_
  (repeat' (first | rfl | ((conv => whnf); first | exact And.intro rfl rfl | refine And.intro (by first | assumption | omega | (simp only [g2, g3, g5, Int.toNat_natCast]; first | done | assumption | omega)) ?_ | (refine And.intro (fun _ => ?_) (fun _ => ?_) <;> first | (exfalso; omega) | skip) | exact rfl | intro _ | fail)))
  (conv => whnf)
  have L : ∀ n i : Nat, ∀ k j : Int, gi M c 0 = i + n → j = i → k = mh_sum (fun i => mh_bi (mh_in M (gr M (c + 1) i) b)) i → K 4 [(0, .inr (.inl c)), (1, .inr (.inl b)), (2, Sum.inl k), (3, Sum.inl j)] [] M 0 := by
    intro n
    induction n with
    | zero =>
      intro i k j hn hj hk
      refine hK _ _ _ _ _ ?_
      (repeat' (first | rfl | ((conv => whnf); first | exact And.intro rfl rfl | refine And.intro (by first | assumption | omega | (simp only [g2, g3, g5, Int.toNat_natCast]; first | done | assumption | omega)) ?_ | (refine And.intro (fun _ => ?_) (fun _ => ?_) <;> first | (exfalso; omega) | skip) | exact rfl | intro _ | fail)))
      refine And.intro ?_ rfl
      rw [hk, hn]
      simp
    | succ n ih =>
      intro i k j hn hj hk
      have hf : ∀ i : Nat, (i : Int) < gi M c 0 → 0 ≤ mh_bi (mh_in M (gr M (c + 1) i) b) ∧ mh_bi (mh_in M (gr M (c + 1) i) b) ≤ 10000 := by
        intro i hi
        exact mh_bi01le _
      have hc := mh_sum_le (f := (fun i => mh_bi (mh_in M (gr M (c + 1) i) b))) (b := 10000) i (fun j hj => hf j (by omega))
      have e : mh_sum (fun i => mh_bi (mh_in M (gr M (c + 1) i) b)) (i + 1) = mh_sum (fun i => mh_bi (mh_in M (gr M (c + 1) i) b)) i + mh_bi (mh_in M (gr M (c + 1) i) b) := rfl
      have hfi := hf i (by omega)
      subst hj
      have hm := hs i (by omega)
      have hk3 := hm.1
      skip
      refine hK _ _ _ _ _ ?_
      (repeat' (first | rfl | ((conv => whnf); first | exact And.intro rfl rfl | refine And.intro (by first | assumption | omega | (simp only [g2, g3, g5, Int.toNat_natCast]; first | done | assumption | omega)) ?_ | (refine And.intro (fun _ => ?_) (fun _ => ?_) <;> first | (exfalso; omega) | skip) | exact rfl | intro _ | fail)))
      all_goals (try ((conv => whnf); (refine Exists.intro _ (Exists.intro _ (And.intro (cX3_get hl h' (by omega)) (And.intro ?_ (fun _ _ h => h.elim)))); rintro _ _ ⟨rfl, e⟩; have e2 := e.symm; clear e; subst e2); (repeat' (first | rfl | ((conv => whnf); first | exact And.intro rfl rfl | refine And.intro (by first | assumption | omega | (simp only [g2, g3, g5, Int.toNat_natCast]; first | done | assumption | omega)) ?_ | (refine And.intro (fun _ => ?_) (fun _ => ?_) <;> first | (exfalso; omega) | skip) | exact rfl | intro _ | fail)))))
      all_goals (try ((conv => whnf); (refine Exists.intro _ (Exists.intro _ (And.intro (cX2_within hl hm hb) (And.intro ?_ (fun _ _ h => h.elim)))); rintro _ _ ⟨rfl, e⟩; have e2 := e.symm; clear e; subst e2); (repeat' (first | rfl | ((conv => whnf); first | exact And.intro rfl rfl | refine And.intro (by first | assumption | omega | (simp only [g2, g3, g5, Int.toNat_natCast]; first | done | assumption | omega)) ?_ | (refine And.intro (fun _ => ?_) (fun _ => ?_) <;> first | (exfalso; omega) | skip) | exact rfl | intro _ | fail)))))
      all_goals (rename_i hp; (conv => whnf); simp only [Int.toNat_natCast] at hp; have h01 := mh_bi01 ((mh_in M (gr M (c + 1) i) b)); exact ih (i + 1) _ _ (by omega) (by omega) (by omega))
  exact L (gi M c 0).toNat 0 0 0 (by omega) rfl rfl
theorem cX3_filledIn {D : mg_D} {l : Launch} (hl : l.stackTraces = false) {M : mg_M} {c b : Nat} (h : mg_cL M c) (hs : mg_cS M c) (hb : kd M b = 1) : mg_Mt D l 26 [.inr (.inl c), .inr (.inl b)] M (fun v M' => v = some (.inl (mh_sum (fun i => (if mh_bi (mh_in M (gr M (c + 1) i) b) = 0 then (0 : Int) else if gi M (gr M (c + 1) i) 4 = 0 then (0 : Int) else 1)) (gi M c 0).toNat)) ∧ M' = M) mg_no := by
  refine mg_of2 hl ok_X3_filledIn al_X3_filledIn rfl (fun K hK => ?_)
  have h' := h
  obtain ⟨g1, g2, g3, g4, g5, g6, g7, g8, g9⟩ := h
  refine hK _ _ _ _ _ ?_
  (repeat' (first | rfl | ((conv => whnf); first | exact And.intro rfl rfl | refine And.intro (by first | assumption | omega | (simp only [g2, g3, g5, Int.toNat_natCast]; first | done | assumption | omega)) ?_ | (refine And.intro (fun _ => ?_) (fun _ => ?_) <;> first | (exfalso; omega) | skip) | exact rfl | intro _ | fail)))
  (conv => whnf)
  have L : ∀ n i : Nat, ∀ k j : Int, gi M c 0 = i + n → j = i → k = mh_sum (fun i => (if mh_bi (mh_in M (gr M (c + 1) i) b) = 0 then (0 : Int) else if gi M (gr M (c + 1) i) 4 = 0 then (0 : Int) else 1)) i → K 4 [(0, .inr (.inl c)), (1, .inr (.inl b)), (2, Sum.inl k), (3, Sum.inl j)] [] M 0 := by
    intro n
    induction n with
    | zero =>
      intro i k j hn hj hk
      refine hK _ _ _ _ _ ?_
      (repeat' (first | rfl | ((conv => whnf); first | exact And.intro rfl rfl | refine And.intro (by first | assumption | omega | (simp only [g2, g3, g5, Int.toNat_natCast]; first | done | assumption | omega)) ?_ | (refine And.intro (fun _ => ?_) (fun _ => ?_) <;> first | (exfalso; omega) | skip) | exact rfl | intro _ | fail)))
      refine And.intro ?_ rfl
      rw [hk, hn]
      simp
    | succ n ih =>
      intro i k j hn hj hk
      have hf : ∀ i : Nat, (i : Int) < gi M c 0 → 0 ≤ (if mh_bi (mh_in M (gr M (c + 1) i) b) = 0 then (0 : Int) else if gi M (gr M (c + 1) i) 4 = 0 then (0 : Int) else 1) ∧ (if mh_bi (mh_in M (gr M (c + 1) i) b) = 0 then (0 : Int) else if gi M (gr M (c + 1) i) 4 = 0 then (0 : Int) else 1) ≤ 10000 := by
        intro i hi
        (repeat' split) <;> omega
      have hc := mh_sum_le (f := (fun i => (if mh_bi (mh_in M (gr M (c + 1) i) b) = 0 then (0 : Int) else if gi M (gr M (c + 1) i) 4 = 0 then (0 : Int) else 1))) (b := 10000) i (fun j hj => hf j (by omega))
      have e : mh_sum (fun i => (if mh_bi (mh_in M (gr M (c + 1) i) b) = 0 then (0 : Int) else if gi M (gr M (c + 1) i) 4 = 0 then (0 : Int) else 1)) (i + 1) = mh_sum (fun i => (if mh_bi (mh_in M (gr M (c + 1) i) b) = 0 then (0 : Int) else if gi M (gr M (c + 1) i) 4 = 0 then (0 : Int) else 1)) i + (if mh_bi (mh_in M (gr M (c + 1) i) b) = 0 then (0 : Int) else if gi M (gr M (c + 1) i) 4 = 0 then (0 : Int) else 1) := rfl
      have hfi := hf i (by omega)
      subst hj
      have hm := hs i (by omega)
      have hk3 := hm.1
      skip
      refine hK _ _ _ _ _ ?_
      (repeat' (first | rfl | ((conv => whnf); first | exact And.intro rfl rfl | refine And.intro (by first | assumption | omega | (simp only [g2, g3, g5, Int.toNat_natCast]; first | done | assumption | omega)) ?_ | (refine And.intro (fun _ => ?_) (fun _ => ?_) <;> first | (exfalso; omega) | skip) | exact rfl | intro _ | fail)))
      all_goals (try ((conv => whnf); (refine Exists.intro _ (Exists.intro _ (And.intro (cX3_get hl h' (by omega)) (And.intro ?_ (fun _ _ h => h.elim)))); rintro _ _ ⟨rfl, e⟩; have e2 := e.symm; clear e; subst e2); (repeat' (first | rfl | ((conv => whnf); first | exact And.intro rfl rfl | refine And.intro (by first | assumption | omega | (simp only [g2, g3, g5, Int.toNat_natCast]; first | done | assumption | omega)) ?_ | (refine And.intro (fun _ => ?_) (fun _ => ?_) <;> first | (exfalso; omega) | skip) | exact rfl | intro _ | fail)))))
      all_goals (try ((conv => whnf); (refine Exists.intro _ (Exists.intro _ (And.intro (cX2_within hl hm hb) (And.intro ?_ (fun _ _ h => h.elim)))); rintro _ _ ⟨rfl, e⟩; have e2 := e.symm; clear e; subst e2); (repeat' (first | rfl | ((conv => whnf); first | exact And.intro rfl rfl | refine And.intro (by first | assumption | omega | (simp only [g2, g3, g5, Int.toNat_natCast]; first | done | assumption | omega)) ?_ | (refine And.intro (fun _ => ?_) (fun _ => ?_) <;> first | (exfalso; omega) | skip) | exact rfl | intro _ | fail)))))
      all_goals (try ((conv => whnf); (refine Exists.intro _ (Exists.intro _ (And.intro (cX3_get hl h' (by omega)) (And.intro ?_ (fun _ _ h => h.elim)))); rintro _ _ ⟨rfl, e⟩; have e2 := e.symm; clear e; subst e2); (repeat' (first | rfl | ((conv => whnf); first | exact And.intro rfl rfl | refine And.intro (by first | assumption | omega | (simp only [g2, g3, g5, Int.toNat_natCast]; first | done | assumption | omega)) ?_ | (refine And.intro (fun _ => ?_) (fun _ => ?_) <;> first | (exfalso; omega) | skip) | exact rfl | intro _ | fail)))))
      all_goals ((conv => whnf); simp only [Int.toNat_natCast] at *; refine ih (i + 1) _ _ (by omega) (by omega) ?_; rw [e]; (repeat' split) <;> omega)
  exact L (gi M c 0).toNat 0 0 0 (by omega) rfl rfl
theorem cX3_sumIn {D : mg_D} {l : Launch} (hl : l.stackTraces = false) {M : mg_M} {c b : Nat} (h : mg_cL M c) (hs : mg_cS M c) (hb : kd M b = 1) (h4 : ∀ i : Nat, (i : Int) < gi M c 0 → 0 ≤ gi M (gr M (c + 1) i) 4 ∧ gi M (gr M (c + 1) i) 4 ≤ 999) : mg_Mt D l 27 [.inr (.inl c), .inr (.inl b)] M (fun v M' => v = some (.inl (mh_sum (fun i => (if mh_bi (mh_in M (gr M (c + 1) i) b) = 0 then (0 : Int) else gi M (gr M (c + 1) i) 4)) (gi M c 0).toNat)) ∧ M' = M) mg_no := by
  refine mg_of2 hl ok_X3_sumIn al_X3_sumIn rfl (fun K hK => ?_)
  have h' := h
  obtain ⟨g1, g2, g3, g4, g5, g6, g7, g8, g9⟩ := h
  refine hK _ _ _ _ _ ?_
  (repeat' (first | rfl | ((conv => whnf); first | exact And.intro rfl rfl | refine And.intro (by first | assumption | omega | (simp only [g2, g3, g5, Int.toNat_natCast]; first | done | assumption | omega)) ?_ | (refine And.intro (fun _ => ?_) (fun _ => ?_) <;> first | (exfalso; omega) | skip) | exact rfl | intro _ | fail)))
  (conv => whnf)
  have L : ∀ n i : Nat, ∀ k j : Int, gi M c 0 = i + n → j = i → k = mh_sum (fun i => (if mh_bi (mh_in M (gr M (c + 1) i) b) = 0 then (0 : Int) else gi M (gr M (c + 1) i) 4)) i → K 4 [(0, .inr (.inl c)), (1, .inr (.inl b)), (2, Sum.inl k), (3, Sum.inl j)] [] M 0 := by
    intro n
    induction n with
    | zero =>
      intro i k j hn hj hk
      refine hK _ _ _ _ _ ?_
      (repeat' (first | rfl | ((conv => whnf); first | exact And.intro rfl rfl | refine And.intro (by first | assumption | omega | (simp only [g2, g3, g5, Int.toNat_natCast]; first | done | assumption | omega)) ?_ | (refine And.intro (fun _ => ?_) (fun _ => ?_) <;> first | (exfalso; omega) | skip) | exact rfl | intro _ | fail)))
      refine And.intro ?_ rfl
      rw [hk, hn]
      simp
    | succ n ih =>
      intro i k j hn hj hk
      have hf : ∀ i : Nat, (i : Int) < gi M c 0 → 0 ≤ (if mh_bi (mh_in M (gr M (c + 1) i) b) = 0 then (0 : Int) else gi M (gr M (c + 1) i) 4) ∧ (if mh_bi (mh_in M (gr M (c + 1) i) b) = 0 then (0 : Int) else gi M (gr M (c + 1) i) 4) ≤ 10000 := by
        intro i hi
        have := h4 i hi; (repeat' split) <;> omega
      have hc := mh_sum_le (f := (fun i => (if mh_bi (mh_in M (gr M (c + 1) i) b) = 0 then (0 : Int) else gi M (gr M (c + 1) i) 4))) (b := 10000) i (fun j hj => hf j (by omega))
      have e : mh_sum (fun i => (if mh_bi (mh_in M (gr M (c + 1) i) b) = 0 then (0 : Int) else gi M (gr M (c + 1) i) 4)) (i + 1) = mh_sum (fun i => (if mh_bi (mh_in M (gr M (c + 1) i) b) = 0 then (0 : Int) else gi M (gr M (c + 1) i) 4)) i + (if mh_bi (mh_in M (gr M (c + 1) i) b) = 0 then (0 : Int) else gi M (gr M (c + 1) i) 4) := rfl
      have hfi := hf i (by omega)
      subst hj
      have hm := hs i (by omega)
      have hk3 := hm.1
      have h4i := h4 i (by omega)
      refine hK _ _ _ _ _ ?_
      (repeat' (first | rfl | ((conv => whnf); first | exact And.intro rfl rfl | refine And.intro (by first | assumption | omega | (simp only [g2, g3, g5, Int.toNat_natCast]; first | done | assumption | omega)) ?_ | (refine And.intro (fun _ => ?_) (fun _ => ?_) <;> first | (exfalso; omega) | skip) | exact rfl | intro _ | fail)))
      all_goals (try ((conv => whnf); (refine Exists.intro _ (Exists.intro _ (And.intro (cX3_get hl h' (by omega)) (And.intro ?_ (fun _ _ h => h.elim)))); rintro _ _ ⟨rfl, e⟩; have e2 := e.symm; clear e; subst e2); (repeat' (first | rfl | ((conv => whnf); first | exact And.intro rfl rfl | refine And.intro (by first | assumption | omega | (simp only [g2, g3, g5, Int.toNat_natCast]; first | done | assumption | omega)) ?_ | (refine And.intro (fun _ => ?_) (fun _ => ?_) <;> first | (exfalso; omega) | skip) | exact rfl | intro _ | fail)))))
      all_goals (try ((conv => whnf); (refine Exists.intro _ (Exists.intro _ (And.intro (cX2_within hl hm hb) (And.intro ?_ (fun _ _ h => h.elim)))); rintro _ _ ⟨rfl, e⟩; have e2 := e.symm; clear e; subst e2); (repeat' (first | rfl | ((conv => whnf); first | exact And.intro rfl rfl | refine And.intro (by first | assumption | omega | (simp only [g2, g3, g5, Int.toNat_natCast]; first | done | assumption | omega)) ?_ | (refine And.intro (fun _ => ?_) (fun _ => ?_) <;> first | (exfalso; omega) | skip) | exact rfl | intro _ | fail)))))
      all_goals (try ((conv => whnf); (refine Exists.intro _ (Exists.intro _ (And.intro (cX3_get hl h' (by omega)) (And.intro ?_ (fun _ _ h => h.elim)))); rintro _ _ ⟨rfl, e⟩; have e2 := e.symm; clear e; subst e2); (repeat' (first | rfl | ((conv => whnf); first | exact And.intro rfl rfl | refine And.intro (by first | assumption | omega | (simp only [g2, g3, g5, Int.toNat_natCast]; first | done | assumption | omega)) ?_ | (refine And.intro (fun _ => ?_) (fun _ => ?_) <;> first | (exfalso; omega) | skip) | exact rfl | intro _ | fail)))))
      all_goals ((conv => whnf); simp only [Int.toNat_natCast] at *; refine ih (i + 1) _ _ (by omega) (by omega) ?_; rw [e]; (repeat' split) <;> omega)
  exact L (gi M c 0).toNat 0 0 0 (by omega) rfl rfl
theorem cX3_mergedSquares {D : mg_D} {l : Launch} (hl : l.stackTraces = false) {M : mg_M} {c : Nat} (h : mg_cL M c) (hs : mg_cS M c) (h4 : ∀ i : Nat, (i : Int) < gi M c 0 → 0 ≤ gi M (gr M (c + 1) i) 2 * gi M (gr M (c + 1) i) 3 ∧ gi M (gr M (c + 1) i) 2 * gi M (gr M (c + 1) i) 3 ≤ 999) : mg_Mt D l 33 [.inr (.inl c)] M (fun v M' => v = some (.inl (mh_sum (fun i => (if gi M (gr M (c + 1) i) 2 * gi M (gr M (c + 1) i) 3 ≤ 1 then (0 : Int) else gi M (gr M (c + 1) i) 2 * gi M (gr M (c + 1) i) 3)) (gi M c 0).toNat)) ∧ M' = M) mg_no := by
  refine mg_of2 hl ok_X3_mergedSquares al_X3_mergedSquares rfl (fun K hK => ?_)
  have h' := h
  obtain ⟨g1, g2, g3, g4, g5, g6, g7, g8, g9⟩ := h
  refine hK _ _ _ _ _ ?_
  (repeat' (first | rfl | ((conv => whnf); first | exact And.intro rfl rfl | refine And.intro (by first | assumption | omega | (simp only [g2, g3, g5, Int.toNat_natCast]; first | done | assumption | omega)) ?_ | (refine And.intro (fun _ => ?_) (fun _ => ?_) <;> first | (exfalso; omega) | skip) | exact rfl | intro _ | fail)))
  (conv => whnf)
  have L : ∀ n i : Nat, ∀ k j : Int, gi M c 0 = i + n → j = i → k = mh_sum (fun i => (if gi M (gr M (c + 1) i) 2 * gi M (gr M (c + 1) i) 3 ≤ 1 then (0 : Int) else gi M (gr M (c + 1) i) 2 * gi M (gr M (c + 1) i) 3)) i → K 4 [(0, .inr (.inl c)), (1, Sum.inl k), (2, Sum.inl j)] [] M 0 := by
    intro n
    induction n with
    | zero =>
      intro i k j hn hj hk
      refine hK _ _ _ _ _ ?_
      (repeat' (first | rfl | ((conv => whnf); first | exact And.intro rfl rfl | refine And.intro (by first | assumption | omega | (simp only [g2, g3, g5, Int.toNat_natCast]; first | done | assumption | omega)) ?_ | (refine And.intro (fun _ => ?_) (fun _ => ?_) <;> first | (exfalso; omega) | skip) | exact rfl | intro _ | fail)))
      refine And.intro ?_ rfl
      rw [hk, hn]
      simp
    | succ n ih =>
      intro i k j hn hj hk
      have hf : ∀ i : Nat, (i : Int) < gi M c 0 → 0 ≤ (if gi M (gr M (c + 1) i) 2 * gi M (gr M (c + 1) i) 3 ≤ 1 then (0 : Int) else gi M (gr M (c + 1) i) 2 * gi M (gr M (c + 1) i) 3) ∧ (if gi M (gr M (c + 1) i) 2 * gi M (gr M (c + 1) i) 3 ≤ 1 then (0 : Int) else gi M (gr M (c + 1) i) 2 * gi M (gr M (c + 1) i) 3) ≤ 10000 := by
        intro i hi
        have := h4 i hi; (repeat' split) <;> omega
      have hc := mh_sum_le (f := (fun i => (if gi M (gr M (c + 1) i) 2 * gi M (gr M (c + 1) i) 3 ≤ 1 then (0 : Int) else gi M (gr M (c + 1) i) 2 * gi M (gr M (c + 1) i) 3))) (b := 10000) i (fun j hj => hf j (by omega))
      have e : mh_sum (fun i => (if gi M (gr M (c + 1) i) 2 * gi M (gr M (c + 1) i) 3 ≤ 1 then (0 : Int) else gi M (gr M (c + 1) i) 2 * gi M (gr M (c + 1) i) 3)) (i + 1) = mh_sum (fun i => (if gi M (gr M (c + 1) i) 2 * gi M (gr M (c + 1) i) 3 ≤ 1 then (0 : Int) else gi M (gr M (c + 1) i) 2 * gi M (gr M (c + 1) i) 3)) i + (if gi M (gr M (c + 1) i) 2 * gi M (gr M (c + 1) i) 3 ≤ 1 then (0 : Int) else gi M (gr M (c + 1) i) 2 * gi M (gr M (c + 1) i) 3) := rfl
      have hfi := hf i (by omega)
      subst hj
      have hm := hs i (by omega)
      have hk3 := hm.1
      have h4i := h4 i (by omega)
      refine hK _ _ _ _ _ ?_
      (repeat' (first | rfl | ((conv => whnf); first | exact And.intro rfl rfl | refine And.intro (by first | assumption | omega | (simp only [g2, g3, g5, Int.toNat_natCast]; first | done | assumption | omega)) ?_ | (refine And.intro (fun _ => ?_) (fun _ => ?_) <;> first | (exfalso; omega) | skip) | exact rfl | intro _ | fail)))
      all_goals (try ((conv => whnf); (refine Exists.intro _ (Exists.intro _ (And.intro (cX3_get hl h' (by omega)) (And.intro ?_ (fun _ _ h => h.elim)))); rintro _ _ ⟨rfl, e⟩; have e2 := e.symm; clear e; subst e2); (repeat' (first | rfl | ((conv => whnf); first | exact And.intro rfl rfl | refine And.intro (by first | assumption | omega | (simp only [g2, g3, g5, Int.toNat_natCast]; first | done | assumption | omega)) ?_ | (refine And.intro (fun _ => ?_) (fun _ => ?_) <;> first | (exfalso; omega) | skip) | exact rfl | intro _ | fail)))))
      all_goals (try ((conv => whnf); (refine Exists.intro _ (Exists.intro _ (And.intro (cX3_get hl h' (by omega)) (And.intro ?_ (fun _ _ h => h.elim)))); rintro _ _ ⟨rfl, e⟩; have e2 := e.symm; clear e; subst e2); (repeat' (first | rfl | ((conv => whnf); first | exact And.intro rfl rfl | refine And.intro (by first | assumption | omega | (simp only [g2, g3, g5, Int.toNat_natCast]; first | done | assumption | omega)) ?_ | (refine And.intro (fun _ => ?_) (fun _ => ?_) <;> first | (exfalso; omega) | skip) | exact rfl | intro _ | fail)))))
      all_goals ((conv => whnf); simp only [Int.toNat_natCast] at *; refine ih (i + 1) _ _ (by omega) (by omega) ?_; rw [e]; (repeat' split) <;> omega)
  exact L (gi M c 0).toNat 0 0 0 (by omega) rfl rfl
def mh_or (f : Nat → Int) : Nat → Int
  | 0 => 0
  | n + 1 => if mh_or f n = 0 then f n else 1
theorem mh_or_stay {f : Nat → Int} {i n : Nat} (h : i ≤ n) (g : mh_or f i = 1) : mh_or f n = 1 := by
  induction n with
  | zero => rw [show i = 0 from by omega] at g; exact g
  | succ n ih =>
    by_cases q : i = n + 1
    · rw [q] at g; exact g
    · have := ih (by omega)
      have e : mh_or f (n + 1) = if mh_or f n = 0 then f n else 1 := rfl
      rw [e, if_neg (by omega)]
def mh_me (M : mg_M) (a b : Nat) : Bool := decide (gi M a 0 ≤ gi M b 2 ∧ gi M b 0 ≤ gi M a 0 + gi M a 2 - 1 ∧ gi M a 1 ≤ gi M b 3 ∧ gi M b 1 ≤ gi M a 1 + gi M a 3 - 1)
theorem cX2_meet {D : mg_D} {l : Launch} (hl : l.stackTraces = false) {M : mg_M} {a b : Nat} (h : mg_sm M a) (hb : kd M b = 1) : mg_Mt D l 8 [.inr (.inl a), .inr (.inl b)] M (fun v M' => v = some (.inl (mh_bi (mh_me M a b))) ∧ M' = M) mg_no := by
  have g := cX2_meets (D := D) hl h hb
  simpa only [mh_bi, mh_me, decide_eq_true_eq] using g
def mh_ac (M : mg_M) (a : Nat) (r : Int) : Bool := decide (gi M a 0 < r ∧ r ≤ gi M a 0 + gi M a 2 - 1)
theorem cX2_across {D : mg_D} {l : Launch} (hl : l.stackTraces = false) {M : mg_M} {a : Nat} {r : Int} (h : mg_sm M a) : mg_Mt D l 9 [.inr (.inl a), .inl r] M (fun v M' => v = some (.inl (mh_bi (mh_ac M a r))) ∧ M' = M) mg_no := by
  have g := cX2_isAcross (D := D) hl (r := r) h
  simpa only [mh_bi, mh_ac, decide_eq_true_eq] using g
theorem cX3_isCut {D : mg_D} {l : Launch} (hl : l.stackTraces = false) {M : mg_M} {c b : Nat} (h : mg_cL M c) (hs : mg_cS M c) (hb : kd M b = 1) : mg_Mt D l 30 [.inr (.inl c), .inr (.inl b)] M (fun v M' => v = some (.inl (mh_or (fun i => (if mh_bi (mh_me M (gr M (c + 1) i) b) = 0 then (0 : Int) else if mh_bi (mh_in M (gr M (c + 1) i) b) = 0 then 1 else 0)) (gi M c 0).toNat)) ∧ M' = M) mg_no := by
  refine mg_of2 hl ok_X3_isCut al_X3_isCut rfl (fun K hK => ?_)
  have h' := h
  obtain ⟨g1, g2, g3, g4, g5, g6, g7, g8, g9⟩ := h
  refine hK _ _ _ _ _ ?_
  (repeat' (first | rfl | ((conv => whnf); first | exact And.intro rfl rfl | refine And.intro (by first | assumption | omega | (simp only [g2, g3, g5, Int.toNat_natCast]; first | done | assumption | omega)) ?_ | (refine And.intro (fun _ => ?_) (fun _ => ?_) <;> first | (exfalso; omega) | skip) | exact rfl | intro _ | fail)))
  (conv => whnf)
  have L : ∀ n i : Nat, ∀ j : Int, gi M c 0 = i + n → j = i → mh_or (fun i => (if mh_bi (mh_me M (gr M (c + 1) i) b) = 0 then (0 : Int) else if mh_bi (mh_in M (gr M (c + 1) i) b) = 0 then 1 else 0)) i = 0 → K 2 [(0, .inr (.inl c)), (1, .inr (.inl b)), (2, Sum.inl j)] [] M 0 := by
    intro n
    induction n with
    | zero =>
      intro i j hn hj hk
      refine hK _ _ _ _ _ ?_
      (repeat' (first | rfl | ((conv => whnf); first | exact And.intro rfl rfl | refine And.intro (by first | assumption | omega | (simp only [g2, g3, g5, Int.toNat_natCast]; first | done | assumption | omega)) ?_ | (refine And.intro (fun _ => ?_) (fun _ => ?_) <;> first | (exfalso; omega) | skip) | exact rfl | intro _ | fail)))
      refine And.intro ?_ rfl
      rw [show (gi M c 0).toNat = i from by omega, hk]
    | succ n ih =>
      intro i j hn hj hk
      have e : mh_or (fun i => (if mh_bi (mh_me M (gr M (c + 1) i) b) = 0 then (0 : Int) else if mh_bi (mh_in M (gr M (c + 1) i) b) = 0 then 1 else 0)) (i + 1) = if mh_or (fun i => (if mh_bi (mh_me M (gr M (c + 1) i) b) = 0 then (0 : Int) else if mh_bi (mh_in M (gr M (c + 1) i) b) = 0 then 1 else 0)) i = 0 then (if mh_bi (mh_me M (gr M (c + 1) i) b) = 0 then (0 : Int) else if mh_bi (mh_in M (gr M (c + 1) i) b) = 0 then 1 else 0) else 1 := rfl
      rw [if_pos hk] at e
      have stay : mh_or (fun i => (if mh_bi (mh_me M (gr M (c + 1) i) b) = 0 then (0 : Int) else if mh_bi (mh_in M (gr M (c + 1) i) b) = 0 then 1 else 0)) (i + 1) = 1 → mh_or (fun i => (if mh_bi (mh_me M (gr M (c + 1) i) b) = 0 then (0 : Int) else if mh_bi (mh_in M (gr M (c + 1) i) b) = 0 then 1 else 0)) (gi M c 0).toNat = 1 := mh_or_stay (by omega)
      subst hj
      have hm := hs i (by omega)
      have hk3 := hm.1
      have hm2 := hm.2
      skip
      refine hK _ _ _ _ _ ?_
      (repeat' (first | rfl | ((conv => whnf); first | exact And.intro rfl rfl | refine And.intro (by first | assumption | omega | (simp only [g2, g3, g5, Int.toNat_natCast]; first | done | assumption | omega)) ?_ | (refine And.intro (fun _ => ?_) (fun _ => ?_) <;> first | (exfalso; omega) | skip) | exact rfl | intro _ | fail)))
      all_goals (try ((conv => whnf); (refine Exists.intro _ (Exists.intro _ (And.intro (cX3_get hl h' (by omega)) (And.intro ?_ (fun _ _ h => h.elim)))); rintro _ _ ⟨rfl, e⟩; have e2 := e.symm; clear e; subst e2); (repeat' (first | rfl | ((conv => whnf); first | exact And.intro rfl rfl | refine And.intro (by first | assumption | omega | (simp only [g2, g3, g5, Int.toNat_natCast]; first | done | assumption | omega)) ?_ | (refine And.intro (fun _ => ?_) (fun _ => ?_) <;> first | (exfalso; omega) | skip) | exact rfl | intro _ | fail)))))
      all_goals (try ((conv => whnf); (refine Exists.intro _ (Exists.intro _ (And.intro (cX2_meet hl hm hb) (And.intro ?_ (fun _ _ h => h.elim)))); rintro _ _ ⟨rfl, e⟩; have e2 := e.symm; clear e; subst e2); (repeat' (first | rfl | ((conv => whnf); first | exact And.intro rfl rfl | refine And.intro (by first | assumption | omega | (simp only [g2, g3, g5, Int.toNat_natCast]; first | done | assumption | omega)) ?_ | (refine And.intro (fun _ => ?_) (fun _ => ?_) <;> first | (exfalso; omega) | skip) | exact rfl | intro _ | fail)))))
      all_goals (try ((conv => whnf); (refine Exists.intro _ (Exists.intro _ (And.intro (cX3_get hl h' (by omega)) (And.intro ?_ (fun _ _ h => h.elim)))); rintro _ _ ⟨rfl, e⟩; have e2 := e.symm; clear e; subst e2); (repeat' (first | rfl | ((conv => whnf); first | exact And.intro rfl rfl | refine And.intro (by first | assumption | omega | (simp only [g2, g3, g5, Int.toNat_natCast]; first | done | assumption | omega)) ?_ | (refine And.intro (fun _ => ?_) (fun _ => ?_) <;> first | (exfalso; omega) | skip) | exact rfl | intro _ | fail)))))
      all_goals (try ((conv => whnf); (refine Exists.intro _ (Exists.intro _ (And.intro (cX2_within hl hm hb) (And.intro ?_ (fun _ _ h => h.elim)))); rintro _ _ ⟨rfl, e⟩; have e2 := e.symm; clear e; subst e2); (repeat' (first | rfl | ((conv => whnf); first | exact And.intro rfl rfl | refine And.intro (by first | assumption | omega | (simp only [g2, g3, g5, Int.toNat_natCast]; first | done | assumption | omega)) ?_ | (refine And.intro (fun _ => ?_) (fun _ => ?_) <;> first | (exfalso; omega) | skip) | exact rfl | intro _ | fail)))))
      all_goals ((conv => whnf); simp only [Int.toNat_natCast] at *)
      all_goals (first
        | (refine ih (i + 1) _ (by omega) (by omega) ?_; rw [e]; (repeat' split) <;> omega)
        | (refine And.intro ?_ (by first | rfl | trivial); rw [stay (by rw [e]; (repeat' split) <;> omega)]))
  exact L (gi M c 0).toNat 0 0 (by omega) rfl rfl
theorem cX3_isAcross {D : mg_D} {l : Launch} (hl : l.stackTraces = false) {M : mg_M} {c : Nat} {r : Int} (h : mg_cL M c) (hs : mg_cS M c) : mg_Mt D l 31 [.inr (.inl c), .inl r] M (fun v M' => v = some (.inl (mh_or (fun i => (if mh_bi (mh_ac M (gr M (c + 1) i) r) = 0 then (0 : Int) else 1)) (gi M c 0).toNat)) ∧ M' = M) mg_no := by
  refine mg_of2 hl ok_X3_isAcross al_X3_isAcross rfl (fun K hK => ?_)
  have h' := h
  obtain ⟨g1, g2, g3, g4, g5, g6, g7, g8, g9⟩ := h
  refine hK _ _ _ _ _ ?_
  (repeat' (first | rfl | ((conv => whnf); first | exact And.intro rfl rfl | refine And.intro (by first | assumption | omega | (simp only [g2, g3, g5, Int.toNat_natCast]; first | done | assumption | omega)) ?_ | (refine And.intro (fun _ => ?_) (fun _ => ?_) <;> first | (exfalso; omega) | skip) | exact rfl | intro _ | fail)))
  (conv => whnf)
  have L : ∀ n i : Nat, ∀ j : Int, gi M c 0 = i + n → j = i → mh_or (fun i => (if mh_bi (mh_ac M (gr M (c + 1) i) r) = 0 then (0 : Int) else 1)) i = 0 → K 2 [(0, .inr (.inl c)), (1, .inl r), (2, Sum.inl j)] [] M 0 := by
    intro n
    induction n with
    | zero =>
      intro i j hn hj hk
      refine hK _ _ _ _ _ ?_
      (repeat' (first | rfl | ((conv => whnf); first | exact And.intro rfl rfl | refine And.intro (by first | assumption | omega | (simp only [g2, g3, g5, Int.toNat_natCast]; first | done | assumption | omega)) ?_ | (refine And.intro (fun _ => ?_) (fun _ => ?_) <;> first | (exfalso; omega) | skip) | exact rfl | intro _ | fail)))
      refine And.intro ?_ rfl
      rw [show (gi M c 0).toNat = i from by omega, hk]
    | succ n ih =>
      intro i j hn hj hk
      have e : mh_or (fun i => (if mh_bi (mh_ac M (gr M (c + 1) i) r) = 0 then (0 : Int) else 1)) (i + 1) = if mh_or (fun i => (if mh_bi (mh_ac M (gr M (c + 1) i) r) = 0 then (0 : Int) else 1)) i = 0 then (if mh_bi (mh_ac M (gr M (c + 1) i) r) = 0 then (0 : Int) else 1) else 1 := rfl
      rw [if_pos hk] at e
      have stay : mh_or (fun i => (if mh_bi (mh_ac M (gr M (c + 1) i) r) = 0 then (0 : Int) else 1)) (i + 1) = 1 → mh_or (fun i => (if mh_bi (mh_ac M (gr M (c + 1) i) r) = 0 then (0 : Int) else 1)) (gi M c 0).toNat = 1 := mh_or_stay (by omega)
      subst hj
      have hm := hs i (by omega)
      have hk3 := hm.1
      have hm2 := hm.2
      skip
      refine hK _ _ _ _ _ ?_
      (repeat' (first | rfl | ((conv => whnf); first | exact And.intro rfl rfl | refine And.intro (by first | assumption | omega | (simp only [g2, g3, g5, Int.toNat_natCast]; first | done | assumption | omega)) ?_ | (refine And.intro (fun _ => ?_) (fun _ => ?_) <;> first | (exfalso; omega) | skip) | exact rfl | intro _ | fail)))
      all_goals (try ((conv => whnf); (refine Exists.intro _ (Exists.intro _ (And.intro (cX3_get hl h' (by omega)) (And.intro ?_ (fun _ _ h => h.elim)))); rintro _ _ ⟨rfl, e⟩; have e2 := e.symm; clear e; subst e2); (repeat' (first | rfl | ((conv => whnf); first | exact And.intro rfl rfl | refine And.intro (by first | assumption | omega | (simp only [g2, g3, g5, Int.toNat_natCast]; first | done | assumption | omega)) ?_ | (refine And.intro (fun _ => ?_) (fun _ => ?_) <;> first | (exfalso; omega) | skip) | exact rfl | intro _ | fail)))))
      all_goals (try ((conv => whnf); (refine Exists.intro _ (Exists.intro _ (And.intro (cX2_across hl hm) (And.intro ?_ (fun _ _ h => h.elim)))); rintro _ _ ⟨rfl, e⟩; have e2 := e.symm; clear e; subst e2); (repeat' (first | rfl | ((conv => whnf); first | exact And.intro rfl rfl | refine And.intro (by first | assumption | omega | (simp only [g2, g3, g5, Int.toNat_natCast]; first | done | assumption | omega)) ?_ | (refine And.intro (fun _ => ?_) (fun _ => ?_) <;> first | (exfalso; omega) | skip) | exact rfl | intro _ | fail)))))
      all_goals ((conv => whnf); simp only [Int.toNat_natCast] at *)
      all_goals (first
        | (refine ih (i + 1) _ (by omega) (by omega) ?_; rw [e]; (repeat' split) <;> omega)
        | (refine And.intro ?_ (by first | rfl | trivial); rw [stay (by rw [e]; (repeat' split) <;> omega)]))
  exact L (gi M c 0).toNat 0 0 (by omega) rfl rfl
theorem cX3_hasTall {D : mg_D} {l : Launch} (hl : l.stackTraces = false) {M : mg_M} {c : Nat} {r s : Int} (h : mg_cL M c) (hs : mg_cS M c) : mg_Mt D l 32 [.inr (.inl c), .inl r, .inl s] M (fun v M' => v = some (.inl (mh_or (fun i => (if gi M (gr M (c + 1) i) 2 ≤ 1 then (0 : Int) else if s < gi M (gr M (c + 1) i) 0 then (0 : Int) else if gi M (gr M (c + 1) i) 0 + gi M (gr M (c + 1) i) 2 - 1 < r then (0 : Int) else 1)) (gi M c 0).toNat)) ∧ M' = M) mg_no := by
  refine mg_of2 hl ok_X3_hasTall al_X3_hasTall rfl (fun K hK => ?_)
  have h' := h
  obtain ⟨g1, g2, g3, g4, g5, g6, g7, g8, g9⟩ := h
  refine hK _ _ _ _ _ ?_
  (repeat' (first | rfl | ((conv => whnf); first | exact And.intro rfl rfl | refine And.intro (by first | assumption | omega | (simp only [g2, g3, g5, Int.toNat_natCast]; first | done | assumption | omega)) ?_ | (refine And.intro (fun _ => ?_) (fun _ => ?_) <;> first | (exfalso; omega) | skip) | exact rfl | intro _ | fail)))
  (conv => whnf)
  have L : ∀ n i : Nat, ∀ j : Int, gi M c 0 = i + n → j = i → mh_or (fun i => (if gi M (gr M (c + 1) i) 2 ≤ 1 then (0 : Int) else if s < gi M (gr M (c + 1) i) 0 then (0 : Int) else if gi M (gr M (c + 1) i) 0 + gi M (gr M (c + 1) i) 2 - 1 < r then (0 : Int) else 1)) i = 0 → K 2 [(0, .inr (.inl c)), (1, .inl r), (2, .inl s), (3, Sum.inl j)] [] M 0 := by
    intro n
    induction n with
    | zero =>
      intro i j hn hj hk
      refine hK _ _ _ _ _ ?_
      (repeat' (first | rfl | ((conv => whnf); first | exact And.intro rfl rfl | refine And.intro (by first | assumption | omega | (simp only [g2, g3, g5, Int.toNat_natCast]; first | done | assumption | omega)) ?_ | (refine And.intro (fun _ => ?_) (fun _ => ?_) <;> first | (exfalso; omega) | skip) | exact rfl | intro _ | fail)))
      refine And.intro ?_ rfl
      rw [show (gi M c 0).toNat = i from by omega, hk]
    | succ n ih =>
      intro i j hn hj hk
      have e : mh_or (fun i => (if gi M (gr M (c + 1) i) 2 ≤ 1 then (0 : Int) else if s < gi M (gr M (c + 1) i) 0 then (0 : Int) else if gi M (gr M (c + 1) i) 0 + gi M (gr M (c + 1) i) 2 - 1 < r then (0 : Int) else 1)) (i + 1) = if mh_or (fun i => (if gi M (gr M (c + 1) i) 2 ≤ 1 then (0 : Int) else if s < gi M (gr M (c + 1) i) 0 then (0 : Int) else if gi M (gr M (c + 1) i) 0 + gi M (gr M (c + 1) i) 2 - 1 < r then (0 : Int) else 1)) i = 0 then (if gi M (gr M (c + 1) i) 2 ≤ 1 then (0 : Int) else if s < gi M (gr M (c + 1) i) 0 then (0 : Int) else if gi M (gr M (c + 1) i) 0 + gi M (gr M (c + 1) i) 2 - 1 < r then (0 : Int) else 1) else 1 := rfl
      rw [if_pos hk] at e
      have stay : mh_or (fun i => (if gi M (gr M (c + 1) i) 2 ≤ 1 then (0 : Int) else if s < gi M (gr M (c + 1) i) 0 then (0 : Int) else if gi M (gr M (c + 1) i) 0 + gi M (gr M (c + 1) i) 2 - 1 < r then (0 : Int) else 1)) (i + 1) = 1 → mh_or (fun i => (if gi M (gr M (c + 1) i) 2 ≤ 1 then (0 : Int) else if s < gi M (gr M (c + 1) i) 0 then (0 : Int) else if gi M (gr M (c + 1) i) 0 + gi M (gr M (c + 1) i) 2 - 1 < r then (0 : Int) else 1)) (gi M c 0).toNat = 1 := mh_or_stay (by omega)
      subst hj
      have hm := hs i (by omega)
      have hk3 := hm.1
      have hm2 := hm.2
      skip
      refine hK _ _ _ _ _ ?_
      (repeat' (first | rfl | ((conv => whnf); first | exact And.intro rfl rfl | refine And.intro (by first | assumption | omega | (simp only [g2, g3, g5, Int.toNat_natCast]; first | done | assumption | omega)) ?_ | (refine And.intro (fun _ => ?_) (fun _ => ?_) <;> first | (exfalso; omega) | skip) | exact rfl | intro _ | fail)))
      all_goals (try ((conv => whnf); (refine Exists.intro _ (Exists.intro _ (And.intro (cX3_get hl h' (by omega)) (And.intro ?_ (fun _ _ h => h.elim)))); rintro _ _ ⟨rfl, e⟩; have e2 := e.symm; clear e; subst e2); (repeat' (first | rfl | ((conv => whnf); first | exact And.intro rfl rfl | refine And.intro (by first | assumption | omega | (simp only [g2, g3, g5, Int.toNat_natCast]; first | done | assumption | omega)) ?_ | (refine And.intro (fun _ => ?_) (fun _ => ?_) <;> first | (exfalso; omega) | skip) | exact rfl | intro _ | fail)))))
      all_goals (try ((conv => whnf); (refine Exists.intro _ (Exists.intro _ (And.intro (cX2_bottom hl hm) (And.intro ?_ (fun _ _ h => h.elim)))); rintro _ _ ⟨rfl, e⟩; have e2 := e.symm; clear e; subst e2); (repeat' (first | rfl | ((conv => whnf); first | exact And.intro rfl rfl | refine And.intro (by first | assumption | omega | (simp only [g2, g3, g5, Int.toNat_natCast]; first | done | assumption | omega)) ?_ | (refine And.intro (fun _ => ?_) (fun _ => ?_) <;> first | (exfalso; omega) | skip) | exact rfl | intro _ | fail)))))
      all_goals ((conv => whnf); simp only [Int.toNat_natCast] at *)
      all_goals (first
        | (refine ih (i + 1) _ (by omega) (by omega) ?_; rw [e]; (repeat' split) <;> omega)
        | (refine And.intro ?_ (by first | rfl | trivial); rw [stay (by rw [e]; (repeat' split) <;> omega)]))
  exact L (gi M c 0).toNat 0 0 (by omega) rfl rfl
end
section
theorem cX3_remove {D : mg_D} {l : Launch} (hl : l.stackTraces = false) {M : mg_M} {c : Nat} {i : Int} (h : mg_cL M c) (hi : 0 ≤ i ∧ i < gi M c 0) : mg_Mt D l 21 [.inr (.inl c), .inl i] M (fun v M' => v = none ∧ M' = sr (sr (si M c 0 (gi M c 0 - 1)) (c + 1) i.toNat (gr M (c + 1) (gi M c 0 - 1).toNat)) (c + 1) (gi M c 0 - 1).toNat (gr M (c + 1) i.toNat)) mg_no := by
  refine mg_of2 hl ok_X3_remove al_X3_remove rfl (fun K hK => ?_)
  obtain ⟨g1, g2, g3, g4, g5, g6, g7, g8, g9⟩ := h
  have n1 : ¬ (c = c + 1) := by omega
  have n2 : ¬ (c + 1 = c) := by omega
  have g10 := g8 i.toNat (by omega)
  have g11 := g8 (gi M c 0 - 1).toNat (by omega)
  have e1 : gr M (c + 1) i.toNat ≠ 0 := by omega
  have e2 : gr M (c + 1) (gi M c 0 - 1).toNat ≠ 0 := by omega
  refine hK _ _ _ _ _ ?_
  (repeat' (((conv => whnf); first | refine And.intro (by first | assumption | omega | (simp only [g2, g3, g5, gr_si, kd_si, ln_si, gi_si, gr_sr, kd_sr, ln_sr, gi_sr, n1, n2, false_and, and_false, if_false, and_self, if_true, Nat.add_eq_zero_iff]; first | done | assumption | omega)) ?_ | (refine And.intro (fun _ => ?_) (fun _ => ?_) <;> first | (exfalso; omega) | skip) | intro _ | fail)))
  all_goals (simp only [g2, g3, g5, gr_si, kd_si, ln_si, gi_si, gr_sr, kd_sr, ln_sr, gi_sr, n1, n2, false_and, and_false, if_false, and_self, if_true, Nat.add_eq_zero_iff])
theorem cX3_add {D : mg_D} {l : Launch} (hl : l.stackTraces = false) {M : mg_M} {c : Nat} {r s t u : Int} (h : mg_cL M c) (hi : gi M c 0 < 120) : mg_Mt D l 20 [.inr (.inl c), .inl r, .inl s, .inl t, .inl u] M (fun v M' => v = some (.inr (.inl (gr M (c + 1) (gi M c 0).toNat))) ∧ M' = mg_put6 (si M c 0 (gi M c 0 + 1)) (gr M (c + 1) (gi M c 0).toNat) r s t u 0 0) mg_no := by
  refine mg_of2 hl ok_X3_add al_X3_add rfl (fun K hK => ?_)
  obtain ⟨g1, g2, g3, g4, g5, g6, g7, g8, g9⟩ := h
  have n1 : ¬ (c = c + 1) := by omega
  have n2 : ¬ (c + 1 = c) := by omega
  have g10 := g8 (gi M c 0).toNat (by omega)
  have e1 : gr M (c + 1) (gi M c 0).toNat ≠ 0 := by omega
  have g5' : ln M (gr M c 1) = 120 := by rw [g2]; exact g5
  refine hK _ _ _ _ _ ?_
  (repeat' (((conv => whnf); first | refine And.intro (by first | assumption | omega | (simp only [g2, g3, g5, gr_si, kd_si, ln_si, gi_si, gr_sr, kd_sr, ln_sr, gi_sr, n1, n2, false_and, and_false, if_false, and_self, if_true, Nat.add_eq_zero_iff]; first | done | assumption | omega)) ?_ | (refine And.intro (fun _ => ?_) (fun _ => ?_) <;> first | (exfalso; omega) | skip) | intro _ | fail)))
  all_goals (try ((conv => whnf); (refine Exists.intro _ (Exists.intro _ (And.intro (cX2_lie hl (by simp only [g2, g3, g5, gr_si, kd_si, ln_si, gi_si, gr_sr, kd_sr, ln_sr, gi_sr, n1, n2, false_and, and_false, if_false, and_self, if_true, Nat.add_eq_zero_iff]; exact g10.1)) (And.intro ?_ (fun _ _ h => h.elim)))); rintro _ _ ⟨rfl, e⟩; have e2 := e.symm; clear e; subst e2); (repeat' (((conv => whnf); first | refine And.intro (by first | assumption | omega | (simp only [g2, g3, g5, gr_si, kd_si, ln_si, gi_si, gr_sr, kd_sr, ln_sr, gi_sr, n1, n2, false_and, and_false, if_false, and_self, if_true, Nat.add_eq_zero_iff]; first | done | assumption | omega)) ?_ | (refine And.intro (fun _ => ?_) (fun _ => ?_) <;> first | (exfalso; omega) | skip) | intro _ | fail)))))
  all_goals (try ((conv => whnf); (refine Exists.intro _ (Exists.intro _ (And.intro (cX2_fill hl (by simp only [g2, g3, g5, gr_si, kd_si, ln_si, gi_si, gr_sr, kd_sr, ln_sr, gi_sr, n1, n2, false_and, and_false, if_false, and_self, if_true, Nat.add_eq_zero_iff]; exact g10.1)) (And.intro ?_ (fun _ _ h => h.elim)))); rintro _ _ ⟨rfl, e⟩; have e2 := e.symm; clear e; subst e2); (repeat' (((conv => whnf); first | refine And.intro (by first | assumption | omega | (simp only [g2, g3, g5, gr_si, kd_si, ln_si, gi_si, gr_sr, kd_sr, ln_sr, gi_sr, n1, n2, false_and, and_false, if_false, and_self, if_true, Nat.add_eq_zero_iff]; first | done | assumption | omega)) ?_ | (refine And.intro (fun _ => ?_) (fun _ => ?_) <;> first | (exfalso; omega) | skip) | intro _ | fail)))))
  all_goals (simp only [g2, g3, g5, gr_si, kd_si, ln_si, gi_si, gr_sr, kd_sr, ln_sr, gi_sr, n1, n2, false_and, and_false, if_false, and_self, if_true, Nat.add_eq_zero_iff]; rfl)
def mh_if (p : Prop) [Decidable p] (M N : mg_M) : mg_M := if p then M else N
def mh_em (c b : Nat) (M : mg_M) : Nat → mg_M
  | 0 => M
  | n + 1 => bif mh_in M (gr M (c + 1) n) b then si (mh_em c b M n) (gr M (c + 1) n) 4 0 else mh_em c b M n
theorem mg_cL_si {M : mg_M} {c a k : Nat} {x : Int} (h : mg_cL M c) (g : ¬ (a = c ∧ k = 0)) : mg_cL (si M a k x) c := by
  unfold mg_cL at *
  have g' : ¬ (c = a ∧ (0 : Nat) = k) := fun q => g ⟨q.1.symm, q.2.symm⟩
  simpa only [gr_si, kd_si, ln_si, gi_si, g', if_false] using h
theorem mg_cL_siz {M : mg_M} {c : Nat} {x : Int} (h : mg_cL M c) (g : 0 ≤ x ∧ x ≤ 120) : mg_cL (si M c 0 x) c := by
  unfold mg_cL at *
  obtain ⟨g1, g2, g3, g4, g5, g6, g7, g8, g9⟩ := h
  exact ⟨g1, g2, g3, g4, g5, g6, by simpa only [gi_si, and_self, if_true] using g, g8, g9⟩
end
section
theorem mh_em_fr {M : mg_M} {c b n : Nat} : (∀ a, kd (mh_em c b M n) a = kd M a) ∧ (∀ a, ln (mh_em c b M n) a = ln M a) ∧ (∀ a k, gr (mh_em c b M n) a k = gr M a k) ∧ (∀ a k, k ≠ 4 → gi (mh_em c b M n) a k = gi M a k) ∧ nx (mh_em c b M n) = nx M ∧ (∀ a k, gl (mh_em c b M n) a k = gl M a k) ∧ (∀ a k, gd (mh_em c b M n) a k = gd M a k) := by
  induction n with
  | zero => exact ⟨fun _ => rfl, fun _ => rfl, fun _ _ => rfl, fun _ _ _ => rfl, rfl, fun _ _ => rfl, fun _ _ => rfl⟩
  | succ n ih =>
    obtain ⟨h1, h2, h3, h4, h5, h6, h7⟩ := ih
    have e : mh_em c b M (n + 1) = bif mh_in M (gr M (c + 1) n) b then si (mh_em c b M n) (gr M (c + 1) n) 4 0 else mh_em c b M n := rfl
    rw [e]
    cases mh_in M (gr M (c + 1) n) b with
    | false => exact ⟨h1, h2, h3, h4, h5, h6, h7⟩
    | true => exact ⟨h1, h2, h3, fun a k g => by rw [cond_true, gi_si, if_neg (fun q => g q.2)]; exact h4 a k g, h5, h6, h7⟩
theorem mh_fr_cL {M N : mg_M} {c : Nat} (h : mg_cL M c) (h1 : ∀ a, kd N a = kd M a) (h2 : ∀ a, ln N a = ln M a) (h3 : ∀ a k, gr N a k = gr M a k) (h4 : gi N c 0 = gi M c 0) : mg_cL N c := by
  unfold mg_cL at *
  simp only [h1, h2, h3, h4]
  exact h
theorem mh_fr_sm {M N : mg_M} {a : Nat} (h : mg_sm M a) (h1 : ∀ a, kd N a = kd M a) (h4 : ∀ a k, k ≠ 4 → gi N a k = gi M a k) : mg_sm N a := by
  unfold mg_sm at *
  rw [h1, h4 a 0 (by omega), h4 a 1 (by omega), h4 a 2 (by omega), h4 a 3 (by omega)]
  exact h
theorem mh_fr_in {M N : mg_M} {a b : Nat} (h4 : ∀ a k, k ≠ 4 → gi N a k = gi M a k) : mh_in N a b = mh_in M a b := by
  unfold mh_in
  rw [h4 a 0 (by omega), h4 a 1 (by omega), h4 a 2 (by omega), h4 a 3 (by omega), h4 b 0 (by omega), h4 b 1 (by omega), h4 b 2 (by omega), h4 b 3 (by omega)]
theorem cX3_emptyIn {D : mg_D} {l : Launch} (hl : l.stackTraces = false) {M : mg_M} {c b : Nat} (h : mg_cL M c) (hs : mg_cS M c) (hb : kd M b = 1) : mg_Mt D l 28 [.inr (.inl c), .inr (.inl b)] M (fun v M' => v = none ∧ M' = mh_em c b M (gi M c 0).toNat) mg_no := by
  refine mg_of2 hl ok_X3_emptyIn al_X3_emptyIn rfl (fun K hK => ?_)
  have g1 := h.1
  have g2 := h.2.2.2.2.2.2.1
  refine hK _ _ _ _ _ ?_
  (repeat' (first | rfl | ((conv => whnf); first | exact And.intro rfl rfl | refine And.intro (by first | assumption | omega | (simp only [kd_si, ln_si, gr_si, Int.toNat_natCast]; first | done | assumption | omega)) ?_ | (refine And.intro (fun _ => ?_) (fun _ => ?_) <;> first | (exfalso; omega) | skip) | exact rfl | intro _ | fail)))
  (conv => whnf)
  have L : ∀ n i : Nat, ∀ j : Int, ∀ N : mg_M, gi M c 0 = i + n → j = i → N = mh_em c b M i → K 2 [(0, Sum.inr (Sum.inl c)), (1, Sum.inr (Sum.inl b)), (2, Sum.inl j)] [] N 0 := by
    intro n
    induction n with
    | zero =>
      intro i j N hn hj hN
      subst hN
      obtain ⟨h1, h2, h3, h4, h5, h6, h7⟩ := @mh_em_fr M c b i
      have hkc : kd (mh_em c b M i) c = 4 := by rw [h1]; exact g1
      have hcs : gi (mh_em c b M i) c 0 = gi M c 0 := h4 c 0 (by omega)
      refine hK _ _ _ _ _ ?_
      (repeat' (first | rfl | ((conv => whnf); first | exact And.intro rfl rfl | refine And.intro (by first | assumption | omega | (simp only [kd_si, ln_si, gr_si, Int.toNat_natCast]; first | done | assumption | omega)) ?_ | (refine And.intro (fun _ => ?_) (fun _ => ?_) <;> first | (exfalso; omega) | skip) | exact rfl | intro _ | fail)))
      first | refine And.intro rfl ?_ | skip
      rw [show (gi M c 0).toNat = i from by omega]
    | succ n ih =>
      intro i j N hn hj hN
      subst hN
      obtain ⟨h1, h2, h3, h4, h5, h6, h7⟩ := @mh_em_fr M c b i
      have hc := mh_fr_cL h h1 h2 h3 (h4 c 0 (by omega))
      have hkc := hc.1
      have hcs : gi (mh_em c b M i) c 0 = gi M c 0 := h4 c 0 (by omega)
      have hm := hs i (by omega)
      have hm2 := mh_fr_sm hm h1 h4
      have e0 : gr (mh_em c b M i) (c + 1) i = gr M (c + 1) i := h3 _ _
      have hk3 : kd (mh_em c b M i) (gr M (c + 1) i) = 3 := hm2.1
      have e : mh_em c b M (i + 1) = bif mh_in M (gr M (c + 1) i) b then si (mh_em c b M i) (gr M (c + 1) i) 4 0 else mh_em c b M i := rfl
      have hin : mh_in (mh_em c b M i) (gr M (c + 1) i) b = mh_in M (gr M (c + 1) i) b := mh_fr_in h4
      subst hj
      rw [← e0] at hm2 hk3
      refine hK _ _ _ _ _ ?_
      (repeat' (first | rfl | ((conv => whnf); first | exact And.intro rfl rfl | refine And.intro (by first | assumption | omega | (simp only [kd_si, ln_si, gr_si, Int.toNat_natCast]; first | done | assumption | omega)) ?_ | (refine And.intro (fun _ => ?_) (fun _ => ?_) <;> first | (exfalso; omega) | skip) | exact rfl | intro _ | fail)))
      all_goals (try ((conv => whnf); (refine Exists.intro _ (Exists.intro _ (And.intro (cX3_get hl hc (by omega)) (And.intro ?_ (fun _ _ h => h.elim)))); rintro _ _ ⟨rfl, e⟩; have e2 := e.symm; clear e; subst e2); (repeat' (first | rfl | ((conv => whnf); first | exact And.intro rfl rfl | refine And.intro (by first | assumption | omega | (simp only [kd_si, ln_si, gr_si, Int.toNat_natCast]; first | done | assumption | omega)) ?_ | (refine And.intro (fun _ => ?_) (fun _ => ?_) <;> first | (exfalso; omega) | skip) | exact rfl | intro _ | fail)))))
      all_goals (try ((conv => whnf); (refine Exists.intro _ (Exists.intro _ (And.intro (cX2_within hl hm2 (by rw [h1]; exact hb)) (And.intro ?_ (fun _ _ h => h.elim)))); rintro _ _ ⟨rfl, e⟩; have e2 := e.symm; clear e; subst e2); (repeat' (first | rfl | ((conv => whnf); first | exact And.intro rfl rfl | refine And.intro (by first | assumption | omega | (simp only [kd_si, ln_si, gr_si, Int.toNat_natCast]; first | done | assumption | omega)) ?_ | (refine And.intro (fun _ => ?_) (fun _ => ?_) <;> first | (exfalso; omega) | skip) | exact rfl | intro _ | fail)))))
      all_goals (try ((conv => whnf); (refine Exists.intro _ (Exists.intro _ (And.intro (cX3_get hl hc (by omega)) (And.intro ?_ (fun _ _ h => h.elim)))); rintro _ _ ⟨rfl, e⟩; have e2 := e.symm; clear e; subst e2); (repeat' (first | rfl | ((conv => whnf); first | exact And.intro rfl rfl | refine And.intro (by first | assumption | omega | (simp only [kd_si, ln_si, gr_si, Int.toNat_natCast]; first | done | assumption | omega)) ?_ | (refine And.intro (fun _ => ?_) (fun _ => ?_) <;> first | (exfalso; omega) | skip) | exact rfl | intro _ | fail)))))
      all_goals ((conv => whnf); rename_i hp; simp only [Int.toNat_natCast, e0, hin] at hp; refine ih (i + 1) _ _ (by omega) (by omega) ?_; rw [e])
      · rw [mh_bi0 hp]; rfl
      · rw [mh_bi1 hp]; simp only [Int.toNat_natCast, e0, cond_true]
  exact L (gi M c 0).toNat 0 0 _ (by omega) rfl rfl
end
section
def mh_rm (M : mg_M) (c i : Nat) : mg_M := sr (sr (si M c 0 (gi M c 0 - 1)) (c + 1) i (gr M (c + 1) (gi M c 0 - 1).toNat)) (c + 1) (gi M c 0 - 1).toNat (gr M (c + 1) i)
theorem mh_rm_gr {M : mg_M} {c i a k : Nat} : gr (mh_rm M c i) a k = if a = c + 1 ∧ k = (gi M c 0 - 1).toNat then gr M (c + 1) i else if a = c + 1 ∧ k = i then gr M (c + 1) (gi M c 0 - 1).toNat else gr M a k := rfl
theorem mh_rm_gi {M : mg_M} {c i a k : Nat} : gi (mh_rm M c i) a k = if a = c ∧ k = 0 then gi M c 0 - 1 else gi M a k := rfl
theorem mh_rm_kd {M : mg_M} {c i a : Nat} : kd (mh_rm M c i) a = kd M a := rfl
theorem mh_rm_ln {M : mg_M} {c i a : Nat} : ln (mh_rm M c i) a = ln M a := rfl
theorem mh_rm_nx {M : mg_M} {c i : Nat} : nx (mh_rm M c i) = nx M := rfl
theorem mh_rm_sw {M : mg_M} {c i k : Nat} (hi : (i : Int) < gi M c 0) (hm : gi M c 0 ≤ 120) (hk : k < 120) : ∃ j, j < 120 ∧ gr (mh_rm M c i) (c + 1) k = gr M (c + 1) j ∧ (j = if k = (gi M c 0 - 1).toNat then i else if k = i then (gi M c 0 - 1).toNat else k) := by
  refine ⟨_, ?_, ?_, rfl⟩
  · split
    · omega
    · split <;> omega
  · rw [mh_rm_gr]
    simp only [true_and]
    split
    · rfl
    · split <;> rfl
theorem mh_rm_cL {M : mg_M} {c i : Nat} (h : mg_cL M c) (hi : (i : Int) < gi M c 0) : mg_cL (mh_rm M c i) c := by
  obtain ⟨g1, g2, g3, g4, g5, g6, g7, g8, g9⟩ := h
  have n1 : ¬ (c = c + 1) := by omega
  refine ⟨g1, ?_, ?_, g4, g5, g6, ?_, ?_, ?_⟩
  · rw [mh_rm_gr, if_neg (fun q => n1 q.1), if_neg (fun q => n1 q.1)]; exact g2
  · rw [mh_rm_gr, if_neg (fun q => n1 q.1), if_neg (fun q => n1 q.1)]; exact g3
  · rw [mh_rm_gi, if_pos ⟨rfl, rfl⟩]; omega
  · intro k hk
    obtain ⟨j, hj, e, _⟩ := mh_rm_sw hi g7.2 hk
    rw [e]
    exact g8 j hj
  · intro k m hk hm e
    obtain ⟨j, hj, e1, q1⟩ := mh_rm_sw hi g7.2 hk
    obtain ⟨j2, hj2, e2, q2⟩ := mh_rm_sw hi g7.2 hm
    rw [e1, e2] at e
    have := g9 _ _ hj hj2 e
    subst this
    rw [q1] at q2
    (repeat' split at q2) <;> omega
theorem mh_rm_cS {M : mg_M} {c i : Nat} (h : mg_cL M c) (hs : mg_cS M c) (hi : (i : Int) < gi M c 0) : mg_cS (mh_rm M c i) c := by
  intro k hk
  have g7 := h.2.2.2.2.2.2.1
  have g8 := h.2.2.2.2.2.2.2.1
  rw [mh_rm_gi, if_pos ⟨rfl, rfl⟩] at hk
  obtain ⟨j, hj, e, q⟩ := mh_rm_sw hi g7.2 (show k < 120 by omega)
  rw [e]
  have hj2 : (j : Int) < gi M c 0 := by
    rw [q]
    split
    · omega
    · split <;> omega
  have hm := hs j hj2
  have ne : gr M (c + 1) j ≠ c := by have := g8 j hj; omega
  unfold mg_sm at *
  simpa only [mh_rm_kd, mh_rm_gi, ne, false_and, if_false] using hm
theorem cX3_rm {D : mg_D} {l : Launch} (hl : l.stackTraces = false) {M : mg_M} {c : Nat} {i : Nat} {j : Int} (hj : j = i) (h : mg_cL M c) (hi : (i : Int) < gi M c 0) : mg_Mt D l 21 [.inr (.inl c), .inl j] M (fun v M' => v = none ∧ M' = mh_rm M c i) mg_no := by
  subst hj
  exact cX3_remove hl h ⟨by omega, hi⟩
def mh_ri (c b : Nat) : Nat → mg_M → mg_M
  | 0, M => M
  | n + 1, M => mh_ri c b n (bif mh_in M (gr M (c + 1) n) b then mh_rm M c n else M)
theorem cX3_removeIn {D : mg_D} {l : Launch} (hl : l.stackTraces = false) {M : mg_M} {c b : Nat} (h : mg_cL M c) (hs : mg_cS M c) (hb : kd M b = 1) : mg_Mt D l 22 [.inr (.inl c), .inr (.inl b)] M (fun v M' => v = none ∧ M' = mh_ri c b (gi M c 0).toNat M) mg_no := by
  refine mg_of2 hl ok_X3_removeIn al_X3_removeIn rfl (fun K hK => ?_)
  have g1 := h.1
  have g2 := h.2.2.2.2.2.2.1
  refine hK _ _ _ _ _ ?_
  (repeat' (first | rfl | ((conv => whnf); first | exact And.intro rfl rfl | refine And.intro (by first | assumption | omega | (simp only [Int.toNat_natCast]; first | done | assumption | omega)) ?_ | (refine And.intro (fun _ => ?_) (fun _ => ?_) <;> first | (exfalso; omega) | skip) | exact rfl | intro _ | fail)))
  (conv => whnf)
  have L : ∀ n : Nat, ∀ j : Int, ∀ N : mg_M, mg_cL N c → mg_cS N c → kd N b = 1 → (n : Int) ≤ gi N c 0 → j = n - 1 → mh_ri c b n N = mh_ri c b (gi M c 0).toNat M → K 7 [(0, Sum.inr (Sum.inl c)), (1, Sum.inr (Sum.inl b)), (2, Sum.inl j)] [] N 0 := by
    intro n
    induction n with
    | zero =>
      intro j N k1 k2 k3 k4 k5 k6
      refine hK _ _ _ _ _ ?_
      (repeat' (first | rfl | ((conv => whnf); first | exact And.intro rfl rfl | refine And.intro (by first | assumption | omega | (simp only [Int.toNat_natCast]; first | done | assumption | omega)) ?_ | (refine And.intro (fun _ => ?_) (fun _ => ?_) <;> first | (exfalso; omega) | skip) | exact rfl | intro _ | fail)))
      first | refine And.intro rfl ?_ | skip
      exact k6
    | succ n ih =>
      intro j N k1 k2 k3 k4 k5 k6
      have hj : j = n := by omega
      clear k5
      subst hj
      have hm := k2 n (by omega)
      have hk3 := hm.1
      have g3 := k1.2.2.2.2.2.2.1
      have k0 := k1.1
      refine hK _ _ _ _ _ ?_
      (repeat' (first | rfl | ((conv => whnf); first | exact And.intro rfl rfl | refine And.intro (by first | assumption | omega | (simp only [Int.toNat_natCast]; first | done | assumption | omega)) ?_ | (refine And.intro (fun _ => ?_) (fun _ => ?_) <;> first | (exfalso; omega) | skip) | exact rfl | intro _ | fail)))
      all_goals (try ((conv => whnf); (refine Exists.intro _ (Exists.intro _ (And.intro (cX3_get hl k1 (by omega)) (And.intro ?_ (fun _ _ h => h.elim)))); rintro _ _ ⟨rfl, e⟩; have e2 := e.symm; clear e; subst e2); (repeat' (first | rfl | ((conv => whnf); first | exact And.intro rfl rfl | refine And.intro (by first | assumption | omega | (simp only [Int.toNat_natCast]; first | done | assumption | omega)) ?_ | (refine And.intro (fun _ => ?_) (fun _ => ?_) <;> first | (exfalso; omega) | skip) | exact rfl | intro _ | fail)))))
      all_goals (try ((conv => whnf); (refine Exists.intro _ (Exists.intro _ (And.intro (cX2_within hl hm k3) (And.intro ?_ (fun _ _ h => h.elim)))); rintro _ _ ⟨rfl, e⟩; have e2 := e.symm; clear e; subst e2); (repeat' (first | rfl | ((conv => whnf); first | exact And.intro rfl rfl | refine And.intro (by first | assumption | omega | (simp only [Int.toNat_natCast]; first | done | assumption | omega)) ?_ | (refine And.intro (fun _ => ?_) (fun _ => ?_) <;> first | (exfalso; omega) | skip) | exact rfl | intro _ | fail)))))
      all_goals (try ((conv => whnf); (refine Exists.intro _ (Exists.intro _ (And.intro (cX3_rm hl rfl k1 (by omega)) (And.intro ?_ (fun _ _ h => h.elim)))); rintro _ _ ⟨rfl, e⟩; have e2 := e.symm; clear e; subst e2); (repeat' (first | rfl | ((conv => whnf); first | exact And.intro rfl rfl | refine And.intro (by first | assumption | omega | (simp only [Int.toNat_natCast]; first | done | assumption | omega)) ?_ | (refine And.intro (fun _ => ?_) (fun _ => ?_) <;> first | (exfalso; omega) | skip) | exact rfl | intro _ | fail)))))
      all_goals ((conv => whnf); rename_i hp; simp only [Int.toNat_natCast] at hp)
      · refine ih _ _ k1 k2 k3 (by omega) (by omega) ?_
        rw [← k6]
        show mh_ri c b n N = mh_ri c b n (bif mh_in N (gr N (c + 1) n) b then mh_rm N c n else N)
        rw [mh_bi0 hp]; rfl
      · refine ih _ _ (mh_rm_cL k1 (by omega)) (mh_rm_cS k1 k2 (by omega)) k3 ?_ (by omega) ?_
        · rw [mh_rm_gi, if_pos ⟨rfl, rfl⟩]; omega
        · rw [← k6]
          show _ = mh_ri c b n (bif mh_in N (gr N (c + 1) n) b then mh_rm N c n else N)
          rw [mh_bi1 hp]; rfl
  exact L (gi M c 0).toNat _ M h hs hb (by omega) (by omega) rfl
end
section
def mh_va (M : mg_M) (a : Nat) : Bool := decide (gi M a 2 = 0 ∨ gi M a 3 = 0)
def mh_rv (c : Nat) : Nat → mg_M → mg_M
  | 0, M => M
  | n + 1, M => mh_rv c n (bif mh_va M (gr M (c + 1) n) then mh_rm M c n else M)
theorem cX3_removeVanished {D : mg_D} {l : Launch} (hl : l.stackTraces = false) {M : mg_M} {c : Nat} (h : mg_cL M c) (hs : mg_cS M c) : mg_Mt D l 23 [.inr (.inl c)] M (fun v M' => v = none ∧ M' = mh_rv c (gi M c 0).toNat M) mg_no := by
  refine mg_of2 hl ok_X3_removeVanished al_X3_removeVanished rfl (fun K hK => ?_)
  have g1 := h.1
  have g2 := h.2.2.2.2.2.2.1
  refine hK _ _ _ _ _ ?_
  (repeat' (first | rfl | ((conv => whnf); first | exact And.intro rfl rfl | refine And.intro (by first | assumption | omega | (simp only [Int.toNat_natCast]; first | done | assumption | omega)) ?_ | (refine And.intro (fun _ => ?_) (fun _ => ?_) <;> first | (exfalso; omega) | skip) | exact rfl | intro _ | fail)))
  (conv => whnf)
  have L : ∀ n : Nat, ∀ j : Int, ∀ N : mg_M, mg_cL N c → mg_cS N c → (n : Int) ≤ gi N c 0 → j = n - 1 → mh_rv c n N = mh_rv c (gi M c 0).toNat M → K 7 [(0, Sum.inr (Sum.inl c)), (1, Sum.inl j)] [] N 0 := by
    intro n
    induction n with
    | zero =>
      intro j N k1 k2 k4 k5 k6
      refine hK _ _ _ _ _ ?_
      (repeat' (first | rfl | ((conv => whnf); first | exact And.intro rfl rfl | refine And.intro (by first | assumption | omega | (simp only [Int.toNat_natCast]; first | done | assumption | omega)) ?_ | (refine And.intro (fun _ => ?_) (fun _ => ?_) <;> first | (exfalso; omega) | skip) | exact rfl | intro _ | fail)))
      first | refine And.intro rfl ?_ | skip
      exact k6
    | succ n ih =>
      intro j N k1 k2 k4 k5 k6
      have hj : j = n := by omega
      clear k5
      subst hj
      have hm := k2 n (by omega)
      have hk3 := hm.1
      have g3 := k1.2.2.2.2.2.2.1
      have k0 := k1.1
      refine hK _ _ _ _ _ ?_
      (repeat' (first | rfl | ((conv => whnf); first | exact And.intro rfl rfl | refine And.intro (by first | assumption | omega | (simp only [Int.toNat_natCast]; first | done | assumption | omega)) ?_ | (refine And.intro (fun _ => ?_) (fun _ => ?_) <;> first | (exfalso; omega) | skip) | exact rfl | intro _ | fail)))
      all_goals (try ((conv => whnf); (refine Exists.intro _ (Exists.intro _ (And.intro (cX3_get hl k1 (by omega)) (And.intro ?_ (fun _ _ h => h.elim)))); rintro _ _ ⟨rfl, e⟩; have e2 := e.symm; clear e; subst e2); (repeat' (first | rfl | ((conv => whnf); first | exact And.intro rfl rfl | refine And.intro (by first | assumption | omega | (simp only [Int.toNat_natCast]; first | done | assumption | omega)) ?_ | (refine And.intro (fun _ => ?_) (fun _ => ?_) <;> first | (exfalso; omega) | skip) | exact rfl | intro _ | fail)))))
      all_goals (try ((conv => whnf); (refine Exists.intro _ (Exists.intro _ (And.intro (cX3_get hl k1 (by omega)) (And.intro ?_ (fun _ _ h => h.elim)))); rintro _ _ ⟨rfl, e⟩; have e2 := e.symm; clear e; subst e2); (repeat' (first | rfl | ((conv => whnf); first | exact And.intro rfl rfl | refine And.intro (by first | assumption | omega | (simp only [Int.toNat_natCast]; first | done | assumption | omega)) ?_ | (refine And.intro (fun _ => ?_) (fun _ => ?_) <;> first | (exfalso; omega) | skip) | exact rfl | intro _ | fail)))))
      all_goals (try ((conv => whnf); (refine Exists.intro _ (Exists.intro _ (And.intro (cX3_rm hl rfl k1 (by omega)) (And.intro ?_ (fun _ _ h => h.elim)))); rintro _ _ ⟨rfl, e⟩; have e2 := e.symm; clear e; subst e2); (repeat' (first | rfl | ((conv => whnf); first | exact And.intro rfl rfl | refine And.intro (by first | assumption | omega | (simp only [Int.toNat_natCast]; first | done | assumption | omega)) ?_ | (refine And.intro (fun _ => ?_) (fun _ => ?_) <;> first | (exfalso; omega) | skip) | exact rfl | intro _ | fail)))))
      all_goals ((conv => whnf); simp only [Int.toNat_natCast] at *)
      all_goals (first
        | (refine ih _ _ k1 k2 (by omega) (by omega) ?_
           rw [← k6]
           show mh_rv c n N = mh_rv c n (bif mh_va N (gr N (c + 1) n) then mh_rm N c n else N)
           rw [show mh_va N (gr N (c + 1) n) = false from decide_eq_false (by omega)]; rfl)
        | (refine ih _ _ (mh_rm_cL k1 (by omega)) (mh_rm_cS k1 k2 (by omega)) (by rw [mh_rm_gi, if_pos ⟨rfl, rfl⟩]; omega) (by omega) ?_
           rw [← k6]
           show _ = mh_rv c n (bif mh_va N (gr N (c + 1) n) then mh_rm N c n else N)
           rw [show mh_va N (gr N (c + 1) n) = true from decide_eq_true (by omega)]; rfl))
  exact L (gi M c 0).toNat _ M h hs (by omega) (by omega) rfl
end
section
theorem mh_p6_ne {M : mg_M} {a b k : Nat} {t c h w x y : Int} (n : b ≠ a) : gi (mg_put6 M a t c h w x y) b k = gi M b k := by
  unfold mg_put6
  simp only [gi_si, n, false_and, if_false]
def mh_bc (c d : Nat) (M : mg_M) : Nat → mg_M
  | 0 => si M c 0 (gi M d 0)
  | n + 1 => mg_put6 (mh_bc c d M n) (gr M (c + 1) n) (gi M (gr M (d + 1) n) 0) (gi M (gr M (d + 1) n) 1) (gi M (gr M (d + 1) n) 2) (gi M (gr M (d + 1) n) 3) (gi M (gr M (d + 1) n) 4) (gi M (gr M (d + 1) n) 5)
theorem mh_bc_fr {M : mg_M} {c d n : Nat} (h : mg_cL M c) (hn : n ≤ 120) : (∀ a, kd (mh_bc c d M n) a = kd M a) ∧ (∀ a, ln (mh_bc c d M n) a = ln M a) ∧ (∀ a k, gr (mh_bc c d M n) a k = gr M a k) ∧ (∀ a k, a ≠ c → (a < c + 3 ∨ c + 123 ≤ a) → gi (mh_bc c d M n) a k = gi M a k) ∧ nx (mh_bc c d M n) = nx M ∧ (∀ a k, gl (mh_bc c d M n) a k = gl M a k) ∧ (∀ a k, gd (mh_bc c d M n) a k = gd M a k) ∧ (∀ k, gi (mh_bc c d M n) c k = if k = 0 then gi M d 0 else gi M c k) := by
  have g8 := h.2.2.2.2.2.2.2.1
  induction n with
  | zero =>
    refine ⟨fun _ => rfl, fun _ => rfl, fun _ _ => rfl, fun a k q _ => ?_, rfl, fun _ _ => rfl, fun _ _ => rfl, fun k => ?_⟩
    · show gi (si M c 0 (gi M d 0)) a k = _
      rw [gi_si, if_neg (fun e => q e.1)]
    · show gi (si M c 0 (gi M d 0)) c k = _
      rw [gi_si]
      simp only [true_and]
  | succ n ih =>
    obtain ⟨h1, h2, h3, h4, h5, h6, h7, h9⟩ := ih (by omega)
    have g := g8 n (by omega)
    refine ⟨h1, h2, h3, fun a k q q2 => ?_, h5, h6, h7, fun k => ?_⟩
    · show gi (mg_put6 (mh_bc c d M n) _ _ _ _ _ _ _) a k = _
      rw [mh_p6_ne (by omega)]
      exact h4 a k q q2
    · show gi (mg_put6 (mh_bc c d M n) _ _ _ _ _ _ _) c k = _
      rw [mh_p6_ne (by omega)]
      exact h9 k
theorem cX3_become {D : mg_D} {l : Launch} (hl : l.stackTraces = false) {M : mg_M} {c d : Nat} (h : mg_cL M c) (h' : mg_cL M d) (hd : c + 123 ≤ d ∨ d + 123 ≤ c) : mg_Mt D l 24 [.inr (.inl c), .inr (.inl d)] M (fun v M' => v = none ∧ M' = mh_bc c d M (gi M d 0).toNat) mg_no := by
  refine mg_of2 hl ok_X3_become al_X3_become rfl (fun K hK => ?_)
  have g1 := h.1
  have g1' := h'.1
  have g2 := h.2.2.2.2.2.2.1
  have g2' := h'.2.2.2.2.2.2.1
  have g8 := h.2.2.2.2.2.2.2.1
  have g8' := h'.2.2.2.2.2.2.2.1
  refine hK _ _ _ _ _ ?_
  (repeat' (first | rfl | ((conv => whnf); first | exact And.intro rfl rfl | refine And.intro (by first | assumption | omega | (simp only [Int.toNat_natCast]; first | done | assumption | omega)) ?_ | (refine And.intro (fun _ => ?_) (fun _ => ?_) <;> first | (exfalso; omega) | skip) | exact rfl | intro _ | fail)))
  (conv => whnf)
  have L : ∀ n i : Nat, ∀ j : Int, ∀ N : mg_M, gi M d 0 = i + n → j = i → N = mh_bc c d M i → K 10 [(0, Sum.inr (Sum.inl c)), (1, Sum.inr (Sum.inl d)), (2, Sum.inl j)] [] N 0 := by
    intro n
    induction n with
    | zero =>
      intro i j N hn hj hN
      subst hN
      obtain ⟨h1, h2, h3, h4, h5, h6, h7, h9⟩ := @mh_bc_fr M c d i h (by omega)
      have hkc : kd (mh_bc c d M i) c = 4 := by rw [h1]; exact g1
      have hcs : gi (mh_bc c d M i) c 0 = gi M d 0 := h9 0
      refine hK _ _ _ _ _ ?_
      (repeat' (first | rfl | ((conv => whnf); first | exact And.intro rfl rfl | refine And.intro (by first | assumption | omega | (simp only [Int.toNat_natCast]; first | done | assumption | omega)) ?_ | (refine And.intro (fun _ => ?_) (fun _ => ?_) <;> first | (exfalso; omega) | skip) | exact rfl | intro _ | fail)))
      first | refine And.intro rfl ?_ | skip
      rw [show (gi M d 0).toNat = i from by omega]
    | succ n ih =>
      intro i j N hn hj hN
      subst hN
      obtain ⟨h1, h2, h3, h4, h5, h6, h7, h9⟩ := @mh_bc_fr M c d i h (by omega)
      have hcs : gi (mh_bc c d M i) c 0 = gi M d 0 := h9 0
      have hds : gi (mh_bc c d M i) d 0 = gi M d 0 := h4 d 0 (by omega) (by omega)
      have hc : mg_cL (mh_bc c d M i) c := by
        have := mh_bc_fr h (d := d) (show i ≤ 120 by omega)
        obtain ⟨w1, w2, w3, w4, w5, w6, w7, w8, w9⟩ := h
        unfold mg_cL
        simp only [h1, h2, h3, hcs]
        exact ⟨w1, w2, w3, w4, w5, w6, g2', w8, w9⟩
      have hdl : mg_cL (mh_bc c d M i) d := mh_fr_cL h' h1 h2 h3 hds
      have hkc : kd (mh_bc c d M i) c = 4 := by rw [h1]; exact g1
      have hkd : kd (mh_bc c d M i) d = 4 := by rw [h1]; exact g1'
      have ec : gr (mh_bc c d M i) (c + 1) i = gr M (c + 1) i := h3 _ _
      have ed : gr (mh_bc c d M i) (d + 1) i = gr M (d + 1) i := h3 _ _
      have q1 := g8 i (by omega)
      have q2 := g8' i (by omega)
      have k1 : kd (mh_bc c d M i) (gr (mh_bc c d M i) (c + 1) i) = 3 := by rw [h1, ec]; exact q1.1
      have k2 : kd (mh_bc c d M i) (gr (mh_bc c d M i) (d + 1) i) = 3 := by rw [h1, ed]; exact q2.1
      have hne : gr (mh_bc c d M i) (c + 1) i ≠ gr (mh_bc c d M i) (d + 1) i := by omega
      have er : ∀ k, gi (mh_bc c d M i) (gr M (d + 1) i) k = gi M (gr M (d + 1) i) k := fun k => h4 _ k (by omega) (by omega)
      have e : mh_bc c d M (i + 1) = mg_put6 (mh_bc c d M i) (gr M (c + 1) i) (gi M (gr M (d + 1) i) 0) (gi M (gr M (d + 1) i) 1) (gi M (gr M (d + 1) i) 2) (gi M (gr M (d + 1) i) 3) (gi M (gr M (d + 1) i) 4) (gi M (gr M (d + 1) i) 5) := rfl
      subst hj
      refine hK _ _ _ _ _ ?_
      (repeat' (first | rfl | ((conv => whnf); first | exact And.intro rfl rfl | refine And.intro (by first | assumption | omega | (simp only [Int.toNat_natCast]; first | done | assumption | omega)) ?_ | (refine And.intro (fun _ => ?_) (fun _ => ?_) <;> first | (exfalso; omega) | skip) | exact rfl | intro _ | fail)))
      all_goals (try ((conv => whnf); (refine Exists.intro _ (Exists.intro _ (And.intro (cX3_get hl hc (by omega)) (And.intro ?_ (fun _ _ h => h.elim)))); rintro _ _ ⟨rfl, e⟩; have e2 := e.symm; clear e; subst e2); (repeat' (first | rfl | ((conv => whnf); first | exact And.intro rfl rfl | refine And.intro (by first | assumption | omega | (simp only [Int.toNat_natCast]; first | done | assumption | omega)) ?_ | (refine And.intro (fun _ => ?_) (fun _ => ?_) <;> first | (exfalso; omega) | skip) | exact rfl | intro _ | fail)))))
      all_goals (try ((conv => whnf); (refine Exists.intro _ (Exists.intro _ (And.intro (cX3_get hl hdl (by omega)) (And.intro ?_ (fun _ _ h => h.elim)))); rintro _ _ ⟨rfl, e⟩; have e2 := e.symm; clear e; subst e2); (repeat' (first | rfl | ((conv => whnf); first | exact And.intro rfl rfl | refine And.intro (by first | assumption | omega | (simp only [Int.toNat_natCast]; first | done | assumption | omega)) ?_ | (refine And.intro (fun _ => ?_) (fun _ => ?_) <;> first | (exfalso; omega) | skip) | exact rfl | intro _ | fail)))))
      all_goals (try ((conv => whnf); (refine Exists.intro _ (Exists.intro _ (And.intro (cX2_become hl k1 k2 hne) (And.intro ?_ (fun _ _ h => h.elim)))); rintro _ _ ⟨rfl, e⟩; have e2 := e.symm; clear e; subst e2); (repeat' (first | rfl | ((conv => whnf); first | exact And.intro rfl rfl | refine And.intro (by first | assumption | omega | (simp only [Int.toNat_natCast]; first | done | assumption | omega)) ?_ | (refine And.intro (fun _ => ?_) (fun _ => ?_) <;> first | (exfalso; omega) | skip) | exact rfl | intro _ | fail)))))
      (conv => whnf)
      refine ih (i + 1) _ _ (by omega) (by omega) ?_
      rw [e]
      simp only [Int.toNat_natCast, ec, ed, er]
  exact L (gi M d 0).toNat 0 0 _ (by omega) rfl rfl
end
section
def mh_pa (c b : Nat) (s : Int) (M : mg_M) : Nat → mg_M
  | 0 => M
  | n + 1 => if mh_bi (mh_in M (gr M (c + 1) n) b) = 0 then mh_pa c b s M n else if gi (mh_pa c b s M n) (gr M (c + 1) n) 5 = s then mh_pa c b s M n else si (mh_pa c b s M n) (gr M (c + 1) n) 5 s
def mh_pc (c b : Nat) (s : Int) (M : mg_M) : Nat → Int
  | 0 => 0
  | n + 1 => if mh_bi (mh_in M (gr M (c + 1) n) b) = 0 then mh_pc c b s M n else if gi (mh_pa c b s M n) (gr M (c + 1) n) 5 = s then mh_pc c b s M n else mh_pc c b s M n + 1
theorem mh_pc_le {c b : Nat} {s : Int} {M : mg_M} (n : Nat) : 0 ≤ mh_pc c b s M n ∧ mh_pc c b s M n ≤ n := by
  induction n with
  | zero => exact ⟨Int.le_refl 0, Int.le_refl 0⟩
  | succ n ih =>
    unfold mh_pc
    (repeat' split) <;> omega
theorem mh_pa_fr {M : mg_M} {c b n : Nat} {s : Int} : (∀ a, kd (mh_pa c b s M n) a = kd M a) ∧ (∀ a, ln (mh_pa c b s M n) a = ln M a) ∧ (∀ a k, gr (mh_pa c b s M n) a k = gr M a k) ∧ (∀ a k, k ≠ 5 → gi (mh_pa c b s M n) a k = gi M a k) ∧ nx (mh_pa c b s M n) = nx M ∧ (∀ a k, gl (mh_pa c b s M n) a k = gl M a k) ∧ (∀ a k, gd (mh_pa c b s M n) a k = gd M a k) := by
  induction n with
  | zero => exact ⟨fun _ => rfl, fun _ => rfl, fun _ _ => rfl, fun _ _ _ => rfl, rfl, fun _ _ => rfl, fun _ _ => rfl⟩
  | succ n ih =>
    obtain ⟨h1, h2, h3, h4, h5, h6, h7⟩ := ih
    unfold mh_pa
    (repeat' split)
    · exact ⟨h1, h2, h3, h4, h5, h6, h7⟩
    · exact ⟨h1, h2, h3, h4, h5, h6, h7⟩
    · exact ⟨h1, h2, h3, fun a k g => by rw [gi_si, if_neg (fun q => g q.2)]; exact h4 a k g, h5, h6, h7⟩
theorem mh_fr5_sm {M N : mg_M} {a : Nat} (h : mg_sm M a) (h1 : ∀ a, kd N a = kd M a) (h4 : ∀ a k, k ≠ 5 → gi N a k = gi M a k) : mg_sm N a := by
  unfold mg_sm at *
  rw [h1, h4 a 0 (by omega), h4 a 1 (by omega), h4 a 2 (by omega), h4 a 3 (by omega)]
  exact h
theorem mh_fr5_in {M N : mg_M} {a b : Nat} (h4 : ∀ a k, k ≠ 5 → gi N a k = gi M a k) : mh_in N a b = mh_in M a b := by
  unfold mh_in
  rw [h4 a 0 (by omega), h4 a 1 (by omega), h4 a 2 (by omega), h4 a 3 (by omega), h4 b 0 (by omega), h4 b 1 (by omega), h4 b 2 (by omega), h4 b 3 (by omega)]
theorem cX3_paint {D : mg_D} {l : Launch} (hl : l.stackTraces = false) {M : mg_M} {c b : Nat} {s : Int} (h : mg_cL M c) (hs : mg_cS M c) (hb : kd M b = 1) : mg_Mt D l 29 [.inr (.inl c), .inr (.inl b), .inl s] M (fun v M' => v = some (.inl (mh_pc c b s M (gi M c 0).toNat)) ∧ M' = mh_pa c b s M (gi M c 0).toNat) mg_no := by
  refine mg_of2 hl ok_X3_paint al_X3_paint rfl (fun K hK => ?_)
  have g1 := h.1
  have g2 := h.2.2.2.2.2.2.1
  refine hK _ _ _ _ _ ?_
  (repeat' (first | rfl | ((conv => whnf); first | exact And.intro rfl rfl | refine And.intro (by first | assumption | omega | (simp only [kd_si, ln_si, gr_si, Int.toNat_natCast]; first | done | assumption | omega)) ?_ | (refine And.intro (fun _ => ?_) (fun _ => ?_) <;> first | (exfalso; omega) | skip) | exact rfl | intro _ | fail)))
  (conv => whnf)
  have L : ∀ n i : Nat, ∀ k j : Int, ∀ N : mg_M, gi M c 0 = i + n → j = i → N = mh_pa c b s M i → k = mh_pc c b s M i → K 5 [(0, Sum.inr (Sum.inl c)), (1, Sum.inr (Sum.inl b)), (2, Sum.inl s), (3, Sum.inl k), (4, Sum.inl j)] [] N 0 := by
    intro n
    induction n with
    | zero =>
      intro i k j N hn hj hN hk
      subst hN
      obtain ⟨h1, h2, h3, h4, h5, h6, h7⟩ := @mh_pa_fr M c b i s
      have hkc : kd (mh_pa c b s M i) c = 4 := by rw [h1]; exact g1
      have hcs : gi (mh_pa c b s M i) c 0 = gi M c 0 := h4 c 0 (by omega)
      refine hK _ _ _ _ _ ?_
      (repeat' (first | rfl | ((conv => whnf); first | exact And.intro rfl rfl | refine And.intro (by first | assumption | omega | (simp only [kd_si, ln_si, gr_si, Int.toNat_natCast]; first | done | assumption | omega)) ?_ | (refine And.intro (fun _ => ?_) (fun _ => ?_) <;> first | (exfalso; omega) | skip) | exact rfl | intro _ | fail)))
      rw [show (gi M c 0).toNat = i from by omega, hk]
      exact And.intro rfl rfl
    | succ n ih =>
      intro i k j N hn hj hN hk
      subst hN
      obtain ⟨h1, h2, h3, h4, h5, h6, h7⟩ := @mh_pa_fr M c b i s
      have hle := @mh_pc_le c b s M i
      have hcs : gi (mh_pa c b s M i) c 0 = gi M c 0 := h4 c 0 (by omega)
      have hc := mh_fr_cL h h1 h2 h3 hcs
      have hkc := hc.1
      have hm := hs i (by omega)
      have hm2 := mh_fr5_sm hm h1 h4
      have e0 : gr (mh_pa c b s M i) (c + 1) i = gr M (c + 1) i := h3 _ _
      have hk3 : kd (mh_pa c b s M i) (gr M (c + 1) i) = 3 := hm2.1
      have e : mh_pa c b s M (i + 1) = if mh_bi (mh_in M (gr M (c + 1) i) b) = 0 then mh_pa c b s M i else if gi (mh_pa c b s M i) (gr M (c + 1) i) 5 = s then mh_pa c b s M i else si (mh_pa c b s M i) (gr M (c + 1) i) 5 s := rfl
      have ek : mh_pc c b s M (i + 1) = if mh_bi (mh_in M (gr M (c + 1) i) b) = 0 then mh_pc c b s M i else if gi (mh_pa c b s M i) (gr M (c + 1) i) 5 = s then mh_pc c b s M i else mh_pc c b s M i + 1 := rfl
      have hin : mh_in (mh_pa c b s M i) (gr M (c + 1) i) b = mh_in M (gr M (c + 1) i) b := mh_fr5_in h4
      subst hj
      rw [← e0] at hm2 hk3
      refine hK _ _ _ _ _ ?_
      (repeat' (first | rfl | ((conv => whnf); first | exact And.intro rfl rfl | refine And.intro (by first | assumption | omega | (simp only [kd_si, ln_si, gr_si, Int.toNat_natCast]; first | done | assumption | omega)) ?_ | (refine And.intro (fun _ => ?_) (fun _ => ?_) <;> first | (exfalso; omega) | skip) | exact rfl | intro _ | fail)))
      all_goals (try ((conv => whnf); (refine Exists.intro _ (Exists.intro _ (And.intro (cX3_get hl hc (by omega)) (And.intro ?_ (fun _ _ h => h.elim)))); rintro _ _ ⟨rfl, e⟩; have e2 := e.symm; clear e; subst e2); (repeat' (first | rfl | ((conv => whnf); first | exact And.intro rfl rfl | refine And.intro (by first | assumption | omega | (simp only [kd_si, ln_si, gr_si, Int.toNat_natCast]; first | done | assumption | omega)) ?_ | (refine And.intro (fun _ => ?_) (fun _ => ?_) <;> first | (exfalso; omega) | skip) | exact rfl | intro _ | fail)))))
      all_goals (try ((conv => whnf); (refine Exists.intro _ (Exists.intro _ (And.intro (cX2_within hl hm2 (by rw [h1]; exact hb)) (And.intro ?_ (fun _ _ h => h.elim)))); rintro _ _ ⟨rfl, e⟩; have e2 := e.symm; clear e; subst e2); (repeat' (first | rfl | ((conv => whnf); first | exact And.intro rfl rfl | refine And.intro (by first | assumption | omega | (simp only [kd_si, ln_si, gr_si, Int.toNat_natCast]; first | done | assumption | omega)) ?_ | (refine And.intro (fun _ => ?_) (fun _ => ?_) <;> first | (exfalso; omega) | skip) | exact rfl | intro _ | fail)))))
      all_goals ((conv => whnf); simp only [Int.toNat_natCast, e0, hin] at *; refine ih (i + 1) _ _ _ (by omega) (by omega) ?_ ?_)
      all_goals (first | rw [e] | rw [ek])
      all_goals ((repeat' split) <;> first | rfl | omega)
  exact L (gi M c 0).toNat 0 0 0 _ (by omega) rfl rfl rfl
end
section
def mg_tb (M : mg_M) (t : Nat) : Prop := (kd M t = 5 ∧ gr M t 3 = t + 1 ∧ gr M t 4 = t + 2 ∧ gr M t 5 = t + 3 ∧ gr M t 6 = t + 126 ∧ gr M t 7 = t + 127 ∧ gr M t 8 = t + 128) ∧ ((kd M (t + 1) = 8 ∧ ln M (t + 1) = 12) ∧ (kd M (t + 2) = 8 ∧ ln M (t + 2) = 10) ∧ (kd M (t + 126) = 8 ∧ ln M (t + 126) = 120) ∧ (kd M (t + 127) = 8 ∧ ln M (t + 127) = 12) ∧ (kd M (t + 128) = 8 ∧ ln M (t + 128) = 12)) ∧ (0 ≤ gi M t 0 ∧ gi M t 0 ≤ 12 ∧ 0 ≤ gi M t 1 ∧ gi M t 1 ≤ 10 ∧ 0 ≤ gi M t 2 ∧ gi M t 2 ≤ 12)
theorem cX4_hasRow {D : mg_D} {l : Launch} (hl : l.stackTraces = false) {M : mg_M} {t : Nat} {r : Int} (h : kd M t = 5) : mg_Mt D l 39 [.inr (.inl t), .inl r] M (fun v M' => v = some (.inl (if 0 ≤ r ∧ r < gi M t 0 then 1 else 0)) ∧ M' = M) mg_no := by
  refine mg_of2 hl ok_X4_hasRow al_X4_hasRow rfl (fun K hK => ?_)
  refine hK _ _ _ _ _ ?_
  (repeat' (first | rfl | ((conv => whnf); first | exact And.intro rfl rfl | refine And.intro (by first | assumption | omega) ?_ | (refine And.intro (fun _ => ?_) (fun _ => ?_) <;> first | (exfalso; omega) | skip) | exact rfl | intro _ | fail)))
  all_goals (refine And.intro ?_ rfl; (repeat' split) <;> first | rfl | omega)
theorem cX4_hasColumn {D : mg_D} {l : Launch} (hl : l.stackTraces = false) {M : mg_M} {t : Nat} {r : Int} (h : kd M t = 5) : mg_Mt D l 40 [.inr (.inl t), .inl r] M (fun v M' => v = some (.inl (if 0 ≤ r ∧ r < gi M t 1 then 1 else 0)) ∧ M' = M) mg_no := by
  refine mg_of2 hl ok_X4_hasColumn al_X4_hasColumn rfl (fun K hK => ?_)
  refine hK _ _ _ _ _ ?_
  (repeat' (first | rfl | ((conv => whnf); first | exact And.intro rfl rfl | refine And.intro (by first | assumption | omega) ?_ | (refine And.intro (fun _ => ?_) (fun _ => ?_) <;> first | (exfalso; omega) | skip) | exact rfl | intro _ | fail)))
  all_goals (refine And.intro ?_ rfl; (repeat' split) <;> first | rfl | omega)
theorem cX4_isInHeader {D : mg_D} {l : Launch} (hl : l.stackTraces = false) {M : mg_M} {t : Nat} {r : Int} (h : kd M t = 5) : mg_Mt D l 41 [.inr (.inl t), .inl r] M (fun v M' => v = some (.inl (if r < gi M t 2 then 1 else 0)) ∧ M' = M) mg_no := by
  refine mg_of2 hl ok_X4_isInHeader al_X4_isInHeader rfl (fun K hK => ?_)
  refine hK _ _ _ _ _ ?_
  (repeat' (first | rfl | ((conv => whnf); first | exact And.intro rfl rfl | refine And.intro (by first | assumption | omega) ?_ | (refine And.intro (fun _ => ?_) (fun _ => ?_) <;> first | (exfalso; omega) | skip) | exact rfl | intro _ | fail)))
  all_goals (refine And.intro ?_ rfl; (repeat' split) <;> first | rfl | omega)
def mh_ow (M : mg_M) (t : Nat) (r c : Int) : Int := if 0 ≤ r ∧ r < gi M t 0 ∧ 0 ≤ c ∧ c < gi M t 1 then gi M (t + 126) (r * 10 + c).toNat else -1
theorem cX4_ownerOf {D : mg_D} {l : Launch} (hl : l.stackTraces = false) {M : mg_M} {t : Nat} {r c : Int} (h : mg_tb M t) : mg_Mt D l 43 [.inr (.inl t), .inl r, .inl c] M (fun v M' => v = some (.inl (mh_ow M t r c)) ∧ M' = M) mg_no := by
  refine mg_of2 hl ok_X4_ownerOf al_X4_ownerOf rfl (fun K hK => ?_)
  obtain ⟨⟨g1, g2, g3, g4, g5, g6, g7⟩, ⟨⟨b1, b2⟩, ⟨b3, b4⟩, ⟨b5, b6⟩, ⟨b7, b8⟩, b9, b10⟩, d1⟩ := h
  refine hK _ _ _ _ _ ?_
  (repeat' (((conv => whnf); first | refine And.intro (by first | assumption | omega | (simp only [g5, b5, b6, true_and]; first | done | assumption | omega)) ?_ | (refine And.intro (fun _ => ?_) (fun _ => ?_) <;> first | (exfalso; omega) | skip) | intro _ | fail)))
  all_goals (try ((conv => whnf); (refine Exists.intro _ (Exists.intro _ (And.intro (cX4_hasRow hl g1) (And.intro ?_ (fun _ _ h => h.elim)))); rintro _ _ ⟨rfl, e⟩; have e2 := e.symm; clear e; subst e2); (repeat' (((conv => whnf); first | refine And.intro (by first | assumption | omega | (simp only [g5, b5, b6, true_and]; first | done | assumption | omega)) ?_ | (refine And.intro (fun _ => ?_) (fun _ => ?_) <;> first | (exfalso; omega) | skip) | intro _ | fail)))))
  all_goals (try ((conv => whnf); (refine Exists.intro _ (Exists.intro _ (And.intro (cX4_hasColumn hl g1) (And.intro ?_ (fun _ _ h => h.elim)))); rintro _ _ ⟨rfl, e⟩; have e2 := e.symm; clear e; subst e2); (repeat' (((conv => whnf); first | refine And.intro (by first | assumption | omega | (simp only [g5, b5, b6, true_and]; first | done | assumption | omega)) ?_ | (refine And.intro (fun _ => ?_) (fun _ => ?_) <;> first | (exfalso; omega) | skip) | intro _ | fail)))))
  · (conv => whnf); refine And.intro ?_ rfl; unfold mh_ow; (repeat' split) <;> first | rfl | omega
  · (conv => whnf); refine And.intro ?_ rfl; unfold mh_ow; (repeat' split) <;> first | rfl | omega
  · (conv => whnf); unfold mh_ow; simp only [g5, b5, b6, true_and]; refine And.intro ?_ (by first | rfl | trivial); (repeat' split) <;> first | rfl | omega
def mh_so (M : mg_M) (t : Nat) (r c x : Int) : mg_M := if 0 ≤ r ∧ r < gi M t 0 ∧ 0 ≤ c ∧ c < gi M t 1 then si M (t + 126) (r * 10 + c).toNat x else M
theorem cX4_setOwner {D : mg_D} {l : Launch} (hl : l.stackTraces = false) {M : mg_M} {t : Nat} {r c x : Int} (h : mg_tb M t) : mg_Mt D l 44 [.inr (.inl t), .inl r, .inl c, .inl x] M (fun v M' => v = none ∧ M' = mh_so M t r c x) mg_no := by
  refine mg_of2 hl ok_X4_setOwner al_X4_setOwner rfl (fun K hK => ?_)
  obtain ⟨⟨g1, g2, g3, g4, g5, g6, g7⟩, ⟨⟨b1, b2⟩, ⟨b3, b4⟩, ⟨b5, b6⟩, ⟨b7, b8⟩, b9, b10⟩, d1⟩ := h
  refine hK _ _ _ _ _ ?_
  (repeat' (((conv => whnf); first | refine And.intro (by first | assumption | omega | (simp only [g5, b5, b6, true_and]; first | done | assumption | omega)) ?_ | (refine And.intro (fun _ => ?_) (fun _ => ?_) <;> first | (exfalso; omega) | skip) | intro _ | fail)))
  all_goals (try ((conv => whnf); (refine Exists.intro _ (Exists.intro _ (And.intro (cX4_hasRow hl g1) (And.intro ?_ (fun _ _ h => h.elim)))); rintro _ _ ⟨rfl, e⟩; have e2 := e.symm; clear e; subst e2); (repeat' (((conv => whnf); first | refine And.intro (by first | assumption | omega | (simp only [g5, b5, b6, true_and]; first | done | assumption | omega)) ?_ | (refine And.intro (fun _ => ?_) (fun _ => ?_) <;> first | (exfalso; omega) | skip) | intro _ | fail)))))
  all_goals (try ((conv => whnf); (refine Exists.intro _ (Exists.intro _ (And.intro (cX4_hasColumn hl g1) (And.intro ?_ (fun _ _ h => h.elim)))); rintro _ _ ⟨rfl, e⟩; have e2 := e.symm; clear e; subst e2); (repeat' (((conv => whnf); first | refine And.intro (by first | assumption | omega | (simp only [g5, b5, b6, true_and]; first | done | assumption | omega)) ?_ | (refine And.intro (fun _ => ?_) (fun _ => ?_) <;> first | (exfalso; omega) | skip) | intro _ | fail)))))
  all_goals ((conv => whnf); (try unfold mh_so); (try simp only [g5, b5, b6, true_and]); (try (refine And.intro ?_ ?_)); all_goals ((repeat' split) <;> first | rfl | trivial | omega))
def mh_pl (M : mg_M) (t : Nat) (r : Int) : Int := if 0 ≤ r ∧ r < gi M t 0 then gi M (t + 127) r.toNat else r
theorem cX4_placeOf {D : mg_D} {l : Launch} (hl : l.stackTraces = false) {M : mg_M} {t : Nat} {r : Int} (h : mg_tb M t) : mg_Mt D l 57 [.inr (.inl t), .inl r] M (fun v M' => v = some (.inl (mh_pl M t r)) ∧ M' = M) mg_no := by
  refine mg_of2 hl ok_X4_placeOf al_X4_placeOf rfl (fun K hK => ?_)
  obtain ⟨⟨g1, g2, g3, g4, g5, g6, g7⟩, ⟨⟨b1, b2⟩, ⟨b3, b4⟩, ⟨b5, b6⟩, ⟨b7, b8⟩, b9, b10⟩, d1⟩ := h
  refine hK _ _ _ _ _ ?_
  (repeat' (((conv => whnf); first | refine And.intro (by first | assumption | omega | (simp only [g6, b7, b8, true_and]; first | done | assumption | omega)) ?_ | (refine And.intro (fun _ => ?_) (fun _ => ?_) <;> first | (exfalso; omega) | skip) | intro _ | fail)))
  all_goals (try ((conv => whnf); (refine Exists.intro _ (Exists.intro _ (And.intro (cX4_hasRow hl g1) (And.intro ?_ (fun _ _ h => h.elim)))); rintro _ _ ⟨rfl, e⟩; have e2 := e.symm; clear e; subst e2); (repeat' (((conv => whnf); first | refine And.intro (by first | assumption | omega | (simp only [g6, b7, b8, true_and]; first | done | assumption | omega)) ?_ | (refine And.intro (fun _ => ?_) (fun _ => ?_) <;> first | (exfalso; omega) | skip) | intro _ | fail)))))
  all_goals ((conv => whnf); (try unfold mh_pl); (try simp only [g6, b7, b8, true_and]); (try (refine And.intro ?_ ?_)); all_goals ((repeat' split) <;> first | rfl | trivial | omega))
theorem cX4_cellOn {D : mg_D} {l : Launch} (hl : l.stackTraces = false) {M : mg_M} {t : Nat} {r c : Int} (h : mg_tb M t) (hc : mg_cL M (t + 3)) (hi : 0 ≤ mh_ow M t r c ∧ mh_ow M t r c < gi M (t + 3) 0) : mg_Mt D l 45 [.inr (.inl t), .inl r, .inl c] M (fun v M' => v = some (.inr (.inl (gr M (t + 3 + 1) (mh_ow M t r c).toNat))) ∧ M' = M) mg_no := by
  refine mg_of2 hl ok_X4_cellOn al_X4_cellOn rfl (fun K hK => ?_)
  have h' := h
  obtain ⟨⟨g1, g2, g3, g4, g5, g6, g7⟩, _, d1⟩ := h
  have k0 := hc.1
  refine hK _ _ _ _ _ ?_
  (repeat' (((conv => whnf); first | refine And.intro (by first | assumption | omega | (simp only [g4, true_and]; first | done | assumption | omega)) ?_ | (refine And.intro (fun _ => ?_) (fun _ => ?_) <;> first | (exfalso; omega) | skip) | intro _ | fail)))
  all_goals (try ((conv => whnf); (refine Exists.intro _ (Exists.intro _ (And.intro (cX4_ownerOf hl h') (And.intro ?_ (fun _ _ h => h.elim)))); rintro _ _ ⟨rfl, e⟩; have e2 := e.symm; clear e; subst e2); (repeat' (((conv => whnf); first | refine And.intro (by first | assumption | omega | (simp only [g4, true_and]; first | done | assumption | omega)) ?_ | (refine And.intro (fun _ => ?_) (fun _ => ?_) <;> first | (exfalso; omega) | skip) | intro _ | fail)))))
  all_goals ((conv => whnf); try rw [g4])
  (refine Exists.intro _ (Exists.intro _ (And.intro (cX3_get hl hc hi) (And.intro ?_ (fun _ _ h => h.elim)))); rintro _ _ ⟨rfl, e⟩; have e2 := e.symm; clear e; subst e2)
  (conv => whnf)
  exact And.intro rfl rfl
end
section
def mh_fx (x : Nat) (M N : mg_M) : Prop := (∀ a, kd N a = kd M a) ∧ (∀ a, ln N a = ln M a) ∧ (∀ a k, gr N a k = gr M a k) ∧ nx N = nx M ∧ (∀ a k, gl N a k = gl M a k) ∧ (∀ a k, gd N a k = gd M a k) ∧ (∀ a k, a ≠ x → gi N a k = gi M a k)
theorem mh_fx_rfl {x : Nat} {M : mg_M} : mh_fx x M M := ⟨fun _ => rfl, fun _ => rfl, fun _ _ => rfl, rfl, fun _ _ => rfl, fun _ _ => rfl, fun _ _ _ => rfl⟩
theorem mh_fx_tr {x : Nat} {M N P : mg_M} (h : mh_fx x M N) (g : mh_fx x N P) : mh_fx x M P := by
  obtain ⟨h1, h2, h3, h4, h5, h6, h7⟩ := h
  obtain ⟨g1, g2, g3, g4, g5, g6, g7⟩ := g
  exact ⟨fun a => (g1 a).trans (h1 a), fun a => (g2 a).trans (h2 a), fun a k => (g3 a k).trans (h3 a k), g4.trans h4, fun a k => (g5 a k).trans (h5 a k), fun a k => (g6 a k).trans (h6 a k), fun a k q => (g7 a k q).trans (h7 a k q)⟩
theorem mh_fx_si {x k : Nat} {v : Int} {M : mg_M} : mh_fx x M (si M x k v) := ⟨fun _ => rfl, fun _ => rfl, fun _ _ => rfl, rfl, fun _ _ => rfl, fun _ _ => rfl, fun a j q => by rw [gi_si, if_neg (fun e => q e.1)]⟩
theorem mh_fx_so {t : Nat} {r c v : Int} {M : mg_M} : mh_fx (t + 126) M (mh_so M t r c v) := by
  unfold mh_so
  split
  · exact mh_fx_si
  · exact mh_fx_rfl
theorem mh_fx_tb {x t : Nat} {M N : mg_M} (h : mh_fx x M N) (n : t ≠ x) (g : mg_tb M t) : mg_tb N t := by
  obtain ⟨h1, h2, h3, h4, h5, h6, h7⟩ := h
  unfold mg_tb at *
  rw [h7 t 0 n, h7 t 1 n, h7 t 2 n]
  simp only [h1, h2, h3]
  exact g
theorem mh_fx_cL {x c : Nat} {M N : mg_M} (h : mh_fx x M N) (n : c ≠ x) (g : mg_cL M c) : mg_cL N c := mh_fr_cL g h.1 h.2.1 h.2.2.1 (h.2.2.2.2.2.2 c 0 n)
theorem mh_fx_sm {x a : Nat} {M N : mg_M} (h : mh_fx x M N) (n : a ≠ x) (g : mg_sm M a) : mg_sm N a := by
  obtain ⟨h1, h2, h3, h4, h5, h6, h7⟩ := h
  unfold mg_sm at *
  rw [h1, h7 a 0 n, h7 a 1 n, h7 a 2 n, h7 a 3 n]
  exact g
def mh_oC (t : Nat) (r x : Int) : Nat → Int → mg_M → mg_M
  | 0, _, M => M
  | n + 1, c, M => mh_oC t r x n (c + 1) (mh_so M t r c x)
def mh_oR (t : Nat) (x c : Int) (w : Nat) : Nat → Int → mg_M → mg_M
  | 0, _, M => M
  | n + 1, r, M => mh_oR t x c w n (r + 1) (mh_oC t r x w c M)
theorem cX4_own {D : mg_D} {l : Launch} (hl : l.stackTraces = false) {M : mg_M} {t i : Nat} {x : Int} (hx : x = i) (h : mg_tb M t) (hc : mg_cL M (t + 3)) (hi : (i : Int) < gi M (t + 3) 0) (hm : mg_sm M (gr M (t + 3 + 1) i)) (h0 : 0 ≤ gi M (gr M (t + 3 + 1) i) 2 ∧ 0 ≤ gi M (gr M (t + 3 + 1) i) 3) : mg_Mt D l 47 [.inr (.inl t), .inl x] M (fun v M' => v = none ∧ M' = mh_oR t i (gi M (gr M (t + 3 + 1) i) 1) (gi M (gr M (t + 3 + 1) i) 3).toNat (gi M (gr M (t + 3 + 1) i) 2).toNat (gi M (gr M (t + 3 + 1) i) 0) M) mg_no := by
  subst hx
  refine mg_of2 hl ok_X4_own al_X4_own rfl (fun K hK => ?_)
  have h' := h
  obtain ⟨⟨g1, g2, g3, g4, g5, g6, g7⟩, _, d1⟩ := h
  have k0 := hc.1
  have k1 := hc.2.2.2.2.2.2.1
  have k2 := hc.2.2.2.2.2.2.2.1 i (by omega)
  refine hK _ _ _ _ _ ?_
  (repeat' (((conv => whnf); first | refine And.intro (by first | assumption | omega | (simp only [g4, true_and, Int.toNat_natCast]; first | done | assumption | omega)) ?_ | (refine And.intro (fun _ => ?_) (fun _ => ?_) <;> first | (exfalso; omega) | skip) | intro _ | fail)))
  (conv => whnf)
  rw [g4]
  (refine Exists.intro _ (Exists.intro _ (And.intro (cX3_get hl hc (by omega)) (And.intro ?_ (fun _ _ h => h.elim)))); rintro _ _ ⟨rfl, e⟩; have e2 := e.symm; clear e; subst e2)
  (repeat' (((conv => whnf); first | refine And.intro (by first | assumption | omega | (simp only [g4, true_and, Int.toNat_natCast]; first | done | assumption | omega)) ?_ | (refine And.intro (fun _ => ?_) (fun _ => ?_) <;> first | (exfalso; omega) | skip) | intro _ | fail)))
  (conv => whnf)
  simp only [Int.toNat_natCast]
  generalize ha : gr M (t + 3 + 1) i = a at *
  have hm' := hm
  obtain ⟨m1, m2, m3⟩ := hm'
  have na : a ≠ t + 126 := by omega
  have LR : ∀ n : Nat, ∀ r : Int, ∀ N : mg_M, mh_fx (t + 126) M N → gi M a 0 ≤ r ∧ gi M a 0 + gi M a 2 - r = n → mh_oR t i (gi M a 1) (gi M a 3).toNat n r N = mh_oR t i (gi M a 1) (gi M a 3).toNat (gi M a 2).toNat (gi M a 0) M → K 14 [(0, Sum.inr (Sum.inl t)), (1, Sum.inl (i : Int)), (2, Sum.inr (Sum.inl a)), (3, Sum.inl r)] [] N 0 := by
    intro n
    induction n with
    | zero =>
      intro r N f hn hp
      have sN := mh_fx_sm f na hm
      have kN := sN.1
      have e0 := f.2.2.2.2.2.2 a 0 na
      have e2 := f.2.2.2.2.2.2 a 2 na
      refine hK _ _ _ _ _ ?_
      (repeat' (((conv => whnf); first | refine And.intro (by first | assumption | omega | (simp only [g4, true_and, Int.toNat_natCast]; first | done | assumption | omega)) ?_ | (refine And.intro (fun _ => ?_) (fun _ => ?_) <;> first | (exfalso; omega) | skip) | intro _ | fail)))
      all_goals (try ((conv => whnf); (refine Exists.intro _ (Exists.intro _ (And.intro (cX2_bottom hl sN) (And.intro ?_ (fun _ _ h => h.elim)))); rintro _ _ ⟨rfl, e⟩; have e2 := e.symm; clear e; subst e2); (repeat' (((conv => whnf); first | refine And.intro (by first | assumption | omega | (simp only [g4, true_and, Int.toNat_natCast]; first | done | assumption | omega)) ?_ | (refine And.intro (fun _ => ?_) (fun _ => ?_) <;> first | (exfalso; omega) | skip) | intro _ | fail)))))
      (conv => whnf)
      first | exact hp | exact And.intro rfl hp
    | succ n ih =>
      intro r N f hn hp
      have sN := mh_fx_sm f na hm
      have kN := sN.1
      have e0 := f.2.2.2.2.2.2 a 0 na
      have e1 := f.2.2.2.2.2.2 a 1 na
      have e2 := f.2.2.2.2.2.2 a 2 na
      have LC : ∀ p : Nat, ∀ c : Int, ∀ P : mg_M, mh_fx (t + 126) M P → gi M a 1 ≤ c ∧ gi M a 1 + gi M a 3 - c = p → mh_oC t r i p c P = mh_oC t r i (gi M a 3).toNat (gi M a 1) N → K 28 [(0, Sum.inr (Sum.inl t)), (1, Sum.inl (i : Int)), (2, Sum.inr (Sum.inl a)), (3, Sum.inl r), (4, Sum.inl c)] [] P 0 := by
        intro p
        induction p with
        | zero =>
          intro c P q hq hr
          have sP := mh_fx_sm q na hm
          have kP := sP.1
          have u1 := q.2.2.2.2.2.2 a 1 na
          have u3 := q.2.2.2.2.2.2 a 3 na
          refine hK _ _ _ _ _ ?_
          (repeat' (((conv => whnf); first | refine And.intro (by first | assumption | omega | (simp only [g4, true_and, Int.toNat_natCast]; first | done | assumption | omega)) ?_ | (refine And.intro (fun _ => ?_) (fun _ => ?_) <;> first | (exfalso; omega) | skip) | intro _ | fail)))
          all_goals (try ((conv => whnf); (refine Exists.intro _ (Exists.intro _ (And.intro (cX2_right hl sP) (And.intro ?_ (fun _ _ h => h.elim)))); rintro _ _ ⟨rfl, e⟩; have e2 := e.symm; clear e; subst e2); (repeat' (((conv => whnf); first | refine And.intro (by first | assumption | omega | (simp only [g4, true_and, Int.toNat_natCast]; first | done | assumption | omega)) ?_ | (refine And.intro (fun _ => ?_) (fun _ => ?_) <;> first | (exfalso; omega) | skip) | intro _ | fail)))))
          (conv => whnf)
          refine ih _ _ q (by omega) ?_
          rw [← hp]
          show _ = mh_oR t i (gi M a 1) (gi M a 3).toNat n (r + 1) (mh_oC t r i (gi M a 3).toNat (gi M a 1) N)
          rw [← hr]; rfl
        | succ p ihp =>
          intro c P q hq hr
          have sP := mh_fx_sm q na hm
          have kP := sP.1
          have u1 := q.2.2.2.2.2.2 a 1 na
          have u3 := q.2.2.2.2.2.2 a 3 na
          have tP := mh_fx_tb q (by omega) h'
          have k5 := tP.1.1
          refine hK _ _ _ _ _ ?_
          (repeat' (((conv => whnf); first | refine And.intro (by first | assumption | omega | (simp only [g4, true_and, Int.toNat_natCast]; first | done | assumption | omega)) ?_ | (refine And.intro (fun _ => ?_) (fun _ => ?_) <;> first | (exfalso; omega) | skip) | intro _ | fail)))
          all_goals (try ((conv => whnf); (refine Exists.intro _ (Exists.intro _ (And.intro (cX2_right hl sP) (And.intro ?_ (fun _ _ h => h.elim)))); rintro _ _ ⟨rfl, e⟩; have e2 := e.symm; clear e; subst e2); (repeat' (((conv => whnf); first | refine And.intro (by first | assumption | omega | (simp only [g4, true_and, Int.toNat_natCast]; first | done | assumption | omega)) ?_ | (refine And.intro (fun _ => ?_) (fun _ => ?_) <;> first | (exfalso; omega) | skip) | intro _ | fail)))))
          all_goals (try ((conv => whnf); (refine Exists.intro _ (Exists.intro _ (And.intro (cX4_setOwner hl tP) (And.intro ?_ (fun _ _ h => h.elim)))); rintro _ _ ⟨rfl, e⟩; have e2 := e.symm; clear e; subst e2); (repeat' (((conv => whnf); first | refine And.intro (by first | assumption | omega | (simp only [g4, true_and, Int.toNat_natCast]; first | done | assumption | omega)) ?_ | (refine And.intro (fun _ => ?_) (fun _ => ?_) <;> first | (exfalso; omega) | skip) | intro _ | fail)))))
          (conv => whnf)
          refine ihp _ _ (mh_fx_tr q mh_fx_so) (by omega) ?_
          rw [← hr]; rfl
      refine hK _ _ _ _ _ ?_
      (repeat' (((conv => whnf); first | refine And.intro (by first | assumption | omega | (simp only [g4, true_and, Int.toNat_natCast]; first | done | assumption | omega)) ?_ | (refine And.intro (fun _ => ?_) (fun _ => ?_) <;> first | (exfalso; omega) | skip) | intro _ | fail)))
      all_goals (try ((conv => whnf); (refine Exists.intro _ (Exists.intro _ (And.intro (cX2_bottom hl sN) (And.intro ?_ (fun _ _ h => h.elim)))); rintro _ _ ⟨rfl, e⟩; have e2 := e.symm; clear e; subst e2); (repeat' (((conv => whnf); first | refine And.intro (by first | assumption | omega | (simp only [g4, true_and, Int.toNat_natCast]; first | done | assumption | omega)) ?_ | (refine And.intro (fun _ => ?_) (fun _ => ?_) <;> first | (exfalso; omega) | skip) | intro _ | fail)))))
      (conv => whnf)
      exact LC (gi M a 3).toNat _ N f (by omega) (by rw [e1])
  exact LR (gi M a 2).toNat _ M mh_fx_rfl (by omega) rfl
end
section
def mh_fi (a : Nat) (v : Int) (M : mg_M) : Nat → mg_M
  | 0 => M
  | n + 1 => si (mh_fi a v M n) a n v
theorem mh_fi_fx {a n : Nat} {v : Int} {M : mg_M} : mh_fx a M (mh_fi a v M n) := by
  induction n with
  | zero => exact mh_fx_rfl
  | succ n ih => exact mh_fx_tr ih mh_fx_si
theorem mh_fi_at {a n k : Nat} {v : Int} {M : mg_M} : gi (mh_fi a v M n) a k = if k < n then v else gi M a k := by
  induction n with
  | zero => rfl
  | succ n ih =>
    show gi (si (mh_fi a v M n) a n v) a k = _
    rw [gi_si]
    (repeat' split) <;> first | rfl | omega | (rw [ih]; split <;> first | rfl | omega)
theorem cJ7_fill {D : mg_D} {l : Launch} (hl : l.stackTraces = false) {M : mg_M} {a : Nat} {v : Int} (h : kd M a = 8) (hn : ln M a < 1000) : mg_Mt D l 70 [.inr (.inl a), .inl v] M (fun w M' => w = none ∧ M' = mh_fi a v M (ln M a)) mg_no := by
  refine mg_of2 hl ok_J7_fill_53178 al_J7_fill_53178 rfl (fun K hK => ?_)
  refine hK _ _ _ _ _ ?_
  (repeat' (first | rfl | ((conv => whnf); first | exact And.intro rfl rfl | refine And.intro (by first | assumption | omega | (simp only [Int.toNat_natCast, true_and]; first | done | assumption | omega)) ?_ | (refine And.intro (fun _ => ?_) (fun _ => ?_) <;> first | (exfalso; omega) | skip) | exact rfl | intro _ | fail)))
  (conv => whnf)
  have L : ∀ n i : Nat, ∀ j : Int, ∀ N : mg_M, ln M a = i + n → j = i → N = mh_fi a v M i → K 5 [(0, Sum.inr (Sum.inl a)), (1, Sum.inl v), (2, Sum.inl j), (3, Sum.inl (ln M a : Int))] [] N 0 := by
    intro n
    induction n with
    | zero =>
      intro i j N hm hj hN
      refine hK _ _ _ _ _ ?_
      (repeat' (((conv => whnf); first | refine And.intro (by first | assumption | omega | (simp only [Int.toNat_natCast, true_and]; first | done | assumption | omega)) ?_ | (refine And.intro (fun _ => ?_) (fun _ => ?_) <;> first | (exfalso; omega) | skip) | intro _ | fail)))
      (conv => whnf)
      rw [hm]
      first | exact hN | exact And.intro rfl hN
    | succ n ih =>
      intro i j N hm hj hN
      subst hN
      subst hj
      have f := @mh_fi_fx a i v M
      have k1 : kd (mh_fi a v M i) a = 8 := by rw [f.1]; exact h
      have k2 : ln (mh_fi a v M i) a = ln M a := f.2.1 a
      refine hK _ _ _ _ _ ?_
      (repeat' (((conv => whnf); first | refine And.intro (by first | assumption | omega | (simp only [Int.toNat_natCast, true_and]; first | done | assumption | omega)) ?_ | (refine And.intro (fun _ => ?_) (fun _ => ?_) <;> first | (exfalso; omega) | skip) | intro _ | fail)))
      (conv => whnf)
      exact ih (i + 1) _ _ (by omega) (by omega) rfl
  exact L (ln M a) 0 0 M (by omega) rfl rfl
theorem cX4_insertSize {D : mg_D} {l : Launch} (hl : l.stackTraces = false) {M : mg_M} {a i : Nat} {v x : Int} (hx : x = i) (h : kd M a = 8) (hn : ln M a < 1000) (hi : i < ln M a) : mg_Mt D l 52 [.inr (.inl a), .inl x, .inl v] M (fun w M' => w = none ∧ mh_fx a M M' ∧ ∀ k, gi M' a k = if k = i then v else if i < k ∧ k < ln M a then gi M a (k - 1) else gi M a k) mg_no := by
  subst hx
  refine mg_of2 hl ok_X4_insertSize al_X4_insertSize rfl (fun K hK => ?_)
  refine hK _ _ _ _ _ ?_
  (repeat' (first | rfl | ((conv => whnf); first | exact And.intro rfl rfl | refine And.intro (by first | assumption | omega | (simp only [Int.toNat_natCast, true_and]; first | done | assumption | omega)) ?_ | (refine And.intro (fun _ => ?_) (fun _ => ?_) <;> first | (exfalso; omega) | skip) | exact rfl | intro _ | fail)))
  (conv => whnf)
  have L : ∀ n : Nat, ∀ j : Int, ∀ N : mg_M, i + n < ln M a → j = i + n → mh_fx a M N → (∀ k, gi N a k = if i + n < k ∧ k < ln M a then gi M a (k - 1) else gi M a k) → K 5 [(0, Sum.inr (Sum.inl a)), (1, Sum.inl (i : Int)), (2, Sum.inl v), (3, Sum.inl j)] [] N 0 := by
    intro n
    induction n with
    | zero =>
      intro j N hm hj f hN
      have k1 : kd N a = 8 := by rw [f.1]; exact h
      have k2 : ln N a = ln M a := f.2.1 a
      refine hK _ _ _ _ _ ?_
      (repeat' (((conv => whnf); first | refine And.intro (by first | assumption | omega | (simp only [Int.toNat_natCast, true_and]; first | done | assumption | omega)) ?_ | (refine And.intro (fun _ => ?_) (fun _ => ?_) <;> first | (exfalso; omega) | skip) | intro _ | fail)))
      (conv => whnf)
      first | refine And.intro rfl (And.intro (mh_fx_tr f mh_fx_si) ?_) | refine And.intro (mh_fx_tr f mh_fx_si) ?_ | skip
      first | intro k | skip
      rw [gi_si, hN]
      simp only [Int.toNat_natCast, true_and]
      (repeat' split) <;> first | rfl | omega
    | succ n ih =>
      intro j N hm hj f hN
      have k1 : kd N a = 8 := by rw [f.1]; exact h
      have k2 : ln N a = ln M a := f.2.1 a
      refine hK _ _ _ _ _ ?_
      (repeat' (((conv => whnf); first | refine And.intro (by first | assumption | omega | (simp only [Int.toNat_natCast, true_and]; first | done | assumption | omega)) ?_ | (refine And.intro (fun _ => ?_) (fun _ => ?_) <;> first | (exfalso; omega) | skip) | intro _ | fail)))
      (conv => whnf)
      refine ih _ _ (by omega) ?_ (mh_fx_tr f mh_fx_si) ?_
      · omega
      · intro k
        have e1 : j.toNat = i + n + 1 := by omega
        have e2 : (j - 1).toNat = i + n := by omega
        have e3 : (j + -1).toNat = i + n := by omega
        rw [gi_si]
        simp only [e1, e2, e3, hN, true_and]
        (repeat' split) <;> first | rfl | omega | (congr 1; omega)
  exact L (ln M a - 1 - i) _ M (by omega) (by omega) mh_fx_rfl (fun k => by rw [if_neg (by omega)])
theorem cX4_removeSize {D : mg_D} {l : Launch} (hl : l.stackTraces = false) {M : mg_M} {a i : Nat} {x : Int} (hx : x = i) (h : kd M a = 8) (hn : ln M a < 1000) (hi : i < ln M a) : mg_Mt D l 53 [.inr (.inl a), .inl x] M (fun w M' => w = none ∧ mh_fx a M M' ∧ ∀ k, gi M' a k = if i ≤ k ∧ k + 1 < ln M a then gi M a (k + 1) else gi M a k) mg_no := by
  subst hx
  refine mg_of2 hl ok_X4_removeSize al_X4_removeSize rfl (fun K hK => ?_)
  refine hK _ _ _ _ _ ?_
  (repeat' (first | rfl | ((conv => whnf); first | exact And.intro rfl rfl | refine And.intro (by first | assumption | omega | (simp only [Int.toNat_natCast, true_and]; first | done | assumption | omega)) ?_ | (refine And.intro (fun _ => ?_) (fun _ => ?_) <;> first | (exfalso; omega) | skip) | exact rfl | intro _ | fail)))
  (conv => whnf)
  have L : ∀ n p : Nat, ∀ j : Int, ∀ N : mg_M, i ≤ p → p + n + 1 = ln M a → j = p → mh_fx a M N → (∀ k, gi N a k = if i ≤ k ∧ k < p then gi M a (k + 1) else gi M a k) → K 6 [(0, Sum.inr (Sum.inl a)), (2, Sum.inl j)] [] N 0 := by
    intro n
    induction n with
    | zero =>
      intro p j N hp hm hj f hN
      have k1 : kd N a = 8 := by rw [f.1]; exact h
      have k2 : ln N a = ln M a := f.2.1 a
      refine hK _ _ _ _ _ ?_
      (repeat' (((conv => whnf); first | refine And.intro (by first | assumption | omega | (simp only [Int.toNat_natCast, true_and]; first | done | assumption | omega)) ?_ | (refine And.intro (fun _ => ?_) (fun _ => ?_) <;> first | (exfalso; omega) | skip) | intro _ | fail)))
      (conv => whnf)
      first | refine And.intro rfl (And.intro f ?_) | refine And.intro f ?_ | skip
      first | intro k | skip
      rw [hN]
      (repeat' split) <;> first | rfl | omega
    | succ n ih =>
      intro p j N hp hm hj f hN
      have k1 : kd N a = 8 := by rw [f.1]; exact h
      have k2 : ln N a = ln M a := f.2.1 a
      refine hK _ _ _ _ _ ?_
      (repeat' (((conv => whnf); first | refine And.intro (by first | assumption | omega | (simp only [Int.toNat_natCast, true_and]; first | done | assumption | omega)) ?_ | (refine And.intro (fun _ => ?_) (fun _ => ?_) <;> first | (exfalso; omega) | skip) | intro _ | fail)))
      (conv => whnf)
      refine ih (p + 1) _ _ (by omega) (by omega) (by omega) (mh_fx_tr f mh_fx_si) ?_
      intro k
      have e1 : j.toNat = p := by omega
      have e2 : (j + 1).toNat = p + 1 := by omega
      rw [gi_si]
      simp only [e1, e2, hN, true_and]
      (repeat' split) <;> first | rfl | omega | (congr 1; omega)
  exact L (ln M a - 1 - i) i _ M (by omega) (by omega) (by omega) mh_fx_rfl (fun k => by rw [if_neg (by omega)])
end
section
def mh_at (M : mg_M) (t : Nat) (r c : Int) : Int := gi M (t + 126) (r * 10 + c).toNat
theorem mh_oC_fx {t n : Nat} {r x c : Int} {M : mg_M} : mh_fx (t + 126) M (mh_oC t r x n c M) := by
  induction n generalizing c M with
  | zero => exact mh_fx_rfl
  | succ n ih => exact mh_fx_tr mh_fx_so ih
theorem mh_oR_fx {t n w : Nat} {x c r : Int} {M : mg_M} : mh_fx (t + 126) M (mh_oR t x c w n r M) := by
  induction n generalizing r M with
  | zero => exact mh_fx_rfl
  | succ n ih => exact mh_fx_tr mh_oC_fx ih
theorem mh_so_at {M : mg_M} {t : Nat} {r c x p q : Int} (hC : gi M t 1 ≤ 10) (hp : 0 ≤ p) (hq : 0 ≤ q ∧ q < 10) : mh_at (mh_so M t r c x) t p q = if (0 ≤ r ∧ r < gi M t 0 ∧ 0 ≤ c ∧ c < gi M t 1) ∧ p = r ∧ q = c then x else mh_at M t p q := by
  unfold mh_so mh_at
  by_cases h : 0 ≤ r ∧ r < gi M t 0 ∧ 0 ≤ c ∧ c < gi M t 1
  · rw [if_pos h, gi_si]
    simp only [h, true_and, and_self]
    by_cases e : (p * 10 + q).toNat = (r * 10 + c).toNat
    · rw [if_pos e, if_pos (by omega)]
    · rw [if_neg e, if_neg (by intro z; apply e; rw [z.1, z.2])]
  · rw [if_neg h, if_neg (fun z => h z.1)]
theorem mh_oC_at {t n : Nat} {r x c p q : Int} {M : mg_M} (hC : gi M t 1 ≤ 10) (hr : 0 ≤ r ∧ r < gi M t 0) (hc : 0 ≤ c ∧ c + n ≤ gi M t 1) (hp : 0 ≤ p) (hq : 0 ≤ q ∧ q < 10) : mh_at (mh_oC t r x n c M) t p q = if p = r ∧ c ≤ q ∧ q < c + n then x else mh_at M t p q := by
  induction n generalizing c M with
  | zero =>
    rw [if_neg (by omega)]
    rfl
  | succ n ih =>
    have f := @mh_fx_so t r c x M
    have f0 := f.2.2.2.2.2.2 t 0 (by omega)
    have f1 := f.2.2.2.2.2.2 t 1 (by omega)
    show mh_at (mh_oC t r x n (c + 1) (mh_so M t r c x)) t p q = _
    rw [ih (by omega) (by omega) (by omega), mh_so_at hC hp hq]
    (repeat' split) <;> first | rfl | omega
theorem mh_oR_at {t n w : Nat} {r x c p q : Int} {M : mg_M} (hC : gi M t 1 ≤ 10) (hr : 0 ≤ r ∧ r + n ≤ gi M t 0) (hc : 0 ≤ c ∧ c + w ≤ gi M t 1) (hp : 0 ≤ p) (hq : 0 ≤ q ∧ q < 10) : mh_at (mh_oR t x c w n r M) t p q = if (r ≤ p ∧ p < r + n) ∧ c ≤ q ∧ q < c + w then x else mh_at M t p q := by
  induction n generalizing r M with
  | zero =>
    rw [if_neg (by omega)]
    rfl
  | succ n ih =>
    have f := @mh_oC_fx t w r x c M
    have f0 := f.2.2.2.2.2.2 t 0 (by omega)
    have f1 := f.2.2.2.2.2.2 t 1 (by omega)
    show mh_at (mh_oR t x c w n (r + 1) (mh_oC t r x w c M)) t p q = _
    rw [ih (by omega) (by omega) (by omega), mh_oC_at hC (by omega) (by omega) hp hq]
    (repeat' split) <;> first | rfl | omega
/-! no more live cells than squares that are owned -/
theorem mh_pig (m : Nat) : ∀ (n : Nat) (f : Nat → Nat), (∀ i, i < n → f i < m) → (∀ i j, i < n → j < n → f i = f j → i = j) → n ≤ m := by
  induction m with
  | zero =>
    intro n f h _
    by_cases q : n = 0
    · omega
    · have := h 0 (by omega)
      omega
  | succ m ih =>
    intro n f h g
    by_cases q : n = 0
    · omega
    · have key : n - 1 ≤ m := by
        refine ih (n - 1) (fun i => if f i = m then f (n - 1) else f i) ?_ ?_
        · intro i hi
          have h1 := h i (by omega)
          have h2 := h (n - 1) (by omega)
          show (if f i = m then f (n - 1) else f i) < m
          split
          · by_cases z : f (n - 1) = m
            · have := g i (n - 1) (by omega) (by omega) (by omega)
              omega
            · omega
          · omega
        · intro i j hi hj e
          have e' : (if f i = m then f (n - 1) else f i) = (if f j = m then f (n - 1) else f j) := e
          split at e' <;> split at e'
          · exact g i j (by omega) (by omega) (by omega)
          · have := g (n - 1) j (by omega) (by omega) e'
            omega
          · have := g i (n - 1) (by omega) (by omega) e'
            omega
          · exact g i j (by omega) (by omega) e'
      omega
end
section
def mh_cv (M : mg_M) (t i : Nat) (r c : Int) : Prop := gi M (gr M (t + 3 + 1) i) 0 ≤ r ∧ r < gi M (gr M (t + 3 + 1) i) 0 + gi M (gr M (t + 3 + 1) i) 2 ∧ gi M (gr M (t + 3 + 1) i) 1 ≤ c ∧ c < gi M (gr M (t + 3 + 1) i) 1 + gi M (gr M (t + 3 + 1) i) 3
def mh_ok (M : mg_M) (t i : Nat) : Prop := (0 ≤ gi M (gr M (t + 3 + 1) i) 0 ∧ 1 ≤ gi M (gr M (t + 3 + 1) i) 2 ∧ gi M (gr M (t + 3 + 1) i) 0 + gi M (gr M (t + 3 + 1) i) 2 ≤ gi M t 0) ∧ (0 ≤ gi M (gr M (t + 3 + 1) i) 1 ∧ 1 ≤ gi M (gr M (t + 3 + 1) i) 3 ∧ gi M (gr M (t + 3 + 1) i) 1 + gi M (gr M (t + 3 + 1) i) 3 ≤ gi M t 1)
def mh_tl (M : mg_M) (t : Nat) : Prop := mg_tb M t ∧ mg_cL M (t + 3) ∧ (∀ i : Nat, (i : Int) < gi M (t + 3) 0 → mh_ok M t i) ∧ (∀ i : Nat, (i : Int) < gi M (t + 3) 0 → ∀ r c, mh_cv M t i r c → mh_at M t r c = i) ∧ (∀ r c, 0 ≤ r → r < gi M t 0 → 0 ≤ c → c < gi M t 1 → mh_at M t r c = -1 ∨ ∃ i : Nat, (i : Int) < gi M (t + 3) 0 ∧ mh_cv M t i r c)
theorem mh_ok_sm {M : mg_M} {t i : Nat} (ht : mg_tb M t) (h : mh_ok M t i) (k : kd M (gr M (t + 3 + 1) i) = 3) : mg_sm M (gr M (t + 3 + 1) i) := by
  obtain ⟨h1, h2⟩ := h
  have := ht.2.2
  exact ⟨k, by omega, by omega⟩
theorem mh_tl_sm {M : mg_M} {t : Nat} (h : mh_tl M t) : mg_cS M (t + 3) := by
  intro i hi
  have g7 := h.2.1.2.2.2.2.2.2.1
  have g8 := h.2.1.2.2.2.2.2.2.2.1 i (by omega)
  exact mh_ok_sm h.1 (h.2.2.1 i hi) g8.1
theorem mh_ok_cv {M : mg_M} {t i : Nat} (h : mh_ok M t i) : mh_cv M t i (gi M (gr M (t + 3 + 1) i) 0) (gi M (gr M (t + 3 + 1) i) 1) := by
  obtain ⟨h1, h2⟩ := h
  unfold mh_cv
  omega
theorem mh_room {M : mg_M} {t : Nat} {r c : Int} (h : mh_tl M t) (hr : 0 ≤ r ∧ r < gi M t 0) (hc : 0 ≤ c ∧ c < gi M t 1) (hb : mh_at M t r c = -1) : gi M (t + 3) 0 < 120 := by
  obtain ⟨ht, hl, hk, ha, _⟩ := h
  have b := ht.2.2
  have z := hl.2.2.2.2.2.2.1
  generalize hs : (gi M (t + 3) 0).toNat = s at *
  have key : s + 1 ≤ 120 := by
    refine mh_pig 120 (s + 1) (fun i => if i = s then (r * 10 + c).toNat else (gi M (gr M (t + 3 + 1) i) 0 * 10 + gi M (gr M (t + 3 + 1) i) 1).toNat) ?_ ?_
    · intro i hi
      show (if i = s then _ else _) < 120
      split
      · omega
      · have := hk i (by omega)
        unfold mh_ok at this
        omega
    · intro i j hi hj e
      have e' : (if i = s then (r * 10 + c).toNat else (gi M (gr M (t + 3 + 1) i) 0 * 10 + gi M (gr M (t + 3 + 1) i) 1).toNat) = (if j = s then (r * 10 + c).toNat else (gi M (gr M (t + 3 + 1) j) 0 * 10 + gi M (gr M (t + 3 + 1) j) 1).toNat) := e
      split at e' <;> split at e'
      · omega
      · have q := hk j (by omega)
        have w := ha j (by omega) _ _ (mh_ok_cv q)
        unfold mh_at at w hb
        rw [← e', hb] at w
        omega
      · have q := hk i (by omega)
        have w := ha i (by omega) _ _ (mh_ok_cv q)
        unfold mh_at at w hb
        rw [e', hb] at w
        omega
      · have q := hk i (by omega)
        have w := ha i (by omega) _ _ (mh_ok_cv q)
        have q2 := hk j (by omega)
        have w2 := ha j (by omega) _ _ (mh_ok_cv q2)
        unfold mh_at at w w2
        rw [e', w2] at w
        omega
  omega
end
