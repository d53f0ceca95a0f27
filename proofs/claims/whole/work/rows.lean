section
-- ===== PART A: goes FIRST, ahead of the names: the tables' words, and 'selects' of the private methods out of them =====
/-- a private method of a class that the tables say can be made, by its rows of tables_1 -/
def lw_okq (q : MethodName × Nat) : Prop := (q.1.cls ≠ "java/lang/invoke/MethodHandle" ∧ q.1.cls ≠ "java/lang/invoke/VarHandle") ∧ Cond.instantiable q.1.cls q.2 ∈ tables_1 ∧ Cond.privateMethod q.1 ∈ tables_1 ∧ Cond.instanceMethod q.1 ∈ tables_1
theorem lw_p0 : lw_okq (⟨"java/lang/Throwable", "fillInStackTrace", "(I)Ljava/lang/Throwable;"⟩, 6) := ⟨⟨by decide +kernel, by decide +kernel⟩, List.mem_of_getElem? (i := 466) (by decide +kernel), List.mem_of_getElem? (i := 464) (by decide +kernel), List.mem_of_getElem? (i := 465) (by decide +kernel)⟩
theorem lw_p1 : lw_okq (⟨"MouldFloor$History", "roomBehind", "()I"⟩, 3) := ⟨⟨by decide +kernel, by decide +kernel⟩, List.mem_of_getElem? (i := 238) (by decide +kernel), List.mem_of_getElem? (i := 508) (by decide +kernel), List.mem_of_getElem? (i := 509) (by decide +kernel)⟩
theorem lw_p2 : lw_okq (⟨"MouldFloor", "settled", "(I)I"⟩, 9) := ⟨⟨by decide +kernel, by decide +kernel⟩, List.mem_of_getElem? (i := 29) (by decide +kernel), List.mem_of_getElem? (i := 528) (by decide +kernel), List.mem_of_getElem? (i := 529) (by decide +kernel)⟩
theorem lw_p3 : lw_okq (⟨"MouldFloor$FamilyText", "isHeadRead", "(LMouldFloor$Text;)Z"⟩, 5) := ⟨⟨by decide +kernel, by decide +kernel⟩, List.mem_of_getElem? (i := 299) (by decide +kernel), List.mem_of_getElem? (i := 579) (by decide +kernel), List.mem_of_getElem? (i := 580) (by decide +kernel)⟩
theorem lw_p4 : lw_okq (⟨"MouldFloor$Text", "isAtDigit", "()Z"⟩, 4) := ⟨⟨by decide +kernel, by decide +kernel⟩, List.mem_of_getElem? (i := 277) (by decide +kernel), List.mem_of_getElem? (i := 587) (by decide +kernel), List.mem_of_getElem? (i := 588) (by decide +kernel)⟩
theorem lw_p5 : lw_okq (⟨"MouldFloor$FamilyText", "isPartRead", "(LMouldFloor$Text;)Z"⟩, 5) := ⟨⟨by decide +kernel, by decide +kernel⟩, List.mem_of_getElem? (i := 299) (by decide +kernel), List.mem_of_getElem? (i := 602) (by decide +kernel), List.mem_of_getElem? (i := 603) (by decide +kernel)⟩
theorem lw_p6 : lw_okq (⟨"MouldFloor$FamilyText", "isTailRead", "(LMouldFloor$Text;)Z"⟩, 5) := ⟨⟨by decide +kernel, by decide +kernel⟩, List.mem_of_getElem? (i := 299) (by decide +kernel), List.mem_of_getElem? (i := 606) (by decide +kernel), List.mem_of_getElem? (i := 607) (by decide +kernel)⟩
theorem lw_p7 : lw_okq (⟨"MouldFloor$ProgramText", "areCommandsRead", "(LMouldFloor$Text;)Z"⟩, 3) := ⟨⟨by decide +kernel, by decide +kernel⟩, List.mem_of_getElem? (i := 323) (by decide +kernel), List.mem_of_getElem? (i := 672) (by decide +kernel), List.mem_of_getElem? (i := 673) (by decide +kernel)⟩
theorem lw_p8 : lw_okq (⟨"MouldFloor$ProgramText", "isCommandRead", "(LMouldFloor$Text;I)Z"⟩, 3) := ⟨⟨by decide +kernel, by decide +kernel⟩, List.mem_of_getElem? (i := 323) (by decide +kernel), List.mem_of_getElem? (i := 677) (by decide +kernel), List.mem_of_getElem? (i := 678) (by decide +kernel)⟩
theorem lw_p9 : lw_okq (⟨"MouldFloor$ProgramText", "isNumberRead", "(LMouldFloor$Text;III)Z"⟩, 3) := ⟨⟨by decide +kernel, by decide +kernel⟩, List.mem_of_getElem? (i := 323) (by decide +kernel), List.mem_of_getElem? (i := 681) (by decide +kernel), List.mem_of_getElem? (i := 682) (by decide +kernel)⟩
theorem lw_p10 : lw_okq (⟨"MouldFloor", "commandCarriedOut", "(I)I"⟩, 9) := ⟨⟨by decide +kernel, by decide +kernel⟩, List.mem_of_getElem? (i := 29) (by decide +kernel), List.mem_of_getElem? (i := 689) (by decide +kernel), List.mem_of_getElem? (i := 690) (by decide +kernel)⟩
theorem lw_p11 : lw_okq (⟨"MouldFloor$Floor", "pass", "(I)I"⟩, 12) := ⟨⟨by decide +kernel, by decide +kernel⟩, List.mem_of_getElem? (i := 37) (by decide +kernel), List.mem_of_getElem? (i := 711) (by decide +kernel), List.mem_of_getElem? (i := 712) (by decide +kernel)⟩
theorem lw_p12 : lw_okq (⟨"MouldFloor$Floor", "refuseForDryers", "(IILMouldFloor$Reasons;)I"⟩, 12) := ⟨⟨by decide +kernel, by decide +kernel⟩, List.mem_of_getElem? (i := 37) (by decide +kernel), List.mem_of_getElem? (i := 751) (by decide +kernel), List.mem_of_getElem? (i := 752) (by decide +kernel)⟩
theorem lw_p13 : lw_okq (⟨"MouldFloor$Floor", "putPieces", "(II)V"⟩, 12) := ⟨⟨by decide +kernel, by decide +kernel⟩, List.mem_of_getElem? (i := 37) (by decide +kernel), List.mem_of_getElem? (i := 769) (by decide +kernel), List.mem_of_getElem? (i := 770) (by decide +kernel)⟩
theorem lw_p14 : lw_okq (⟨"MouldFloor", "checkColours", "(I)V"⟩, 9) := ⟨⟨by decide +kernel, by decide +kernel⟩, List.mem_of_getElem? (i := 29) (by decide +kernel), List.mem_of_getElem? (i := 967) (by decide +kernel), List.mem_of_getElem? (i := 968) (by decide +kernel)⟩
theorem lw_p15 : lw_okq (⟨"MouldFloor$ColourOrders", "fillSums", "(LMouldFloor$Catalogue;I)V"⟩, 2) := ⟨⟨by decide +kernel, by decide +kernel⟩, List.mem_of_getElem? (i := 340) (by decide +kernel), List.mem_of_getElem? (i := 976) (by decide +kernel), List.mem_of_getElem? (i := 977) (by decide +kernel)⟩
def lw_privs_1 : List (MethodName × Nat) := [(⟨"java/lang/Throwable", "fillInStackTrace", "(I)Ljava/lang/Throwable;"⟩, 6), (⟨"MouldFloor$History", "roomBehind", "()I"⟩, 3), (⟨"MouldFloor", "settled", "(I)I"⟩, 9), (⟨"MouldFloor$FamilyText", "isHeadRead", "(LMouldFloor$Text;)Z"⟩, 5), (⟨"MouldFloor$Text", "isAtDigit", "()Z"⟩, 4), (⟨"MouldFloor$FamilyText", "isPartRead", "(LMouldFloor$Text;)Z"⟩, 5), (⟨"MouldFloor$FamilyText", "isTailRead", "(LMouldFloor$Text;)Z"⟩, 5), (⟨"MouldFloor$ProgramText", "areCommandsRead", "(LMouldFloor$Text;)Z"⟩, 3), (⟨"MouldFloor$ProgramText", "isCommandRead", "(LMouldFloor$Text;I)Z"⟩, 3), (⟨"MouldFloor$ProgramText", "isNumberRead", "(LMouldFloor$Text;III)Z"⟩, 3), (⟨"MouldFloor", "commandCarriedOut", "(I)I"⟩, 9), (⟨"MouldFloor$Floor", "pass", "(I)I"⟩, 12), (⟨"MouldFloor$Floor", "refuseForDryers", "(IILMouldFloor$Reasons;)I"⟩, 12), (⟨"MouldFloor$Floor", "putPieces", "(II)V"⟩, 12), (⟨"MouldFloor", "checkColours", "(I)V"⟩, 9), (⟨"MouldFloor$ColourOrders", "fillSums", "(LMouldFloor$Catalogue;I)V"⟩, 2)]
theorem lw_r1 : ∀ q ∈ lw_privs_1, lw_okq q := List.forall_mem_cons.mpr ⟨lw_p0, List.forall_mem_cons.mpr ⟨lw_p1, List.forall_mem_cons.mpr ⟨lw_p2, List.forall_mem_cons.mpr ⟨lw_p3, List.forall_mem_cons.mpr ⟨lw_p4, List.forall_mem_cons.mpr ⟨lw_p5, List.forall_mem_cons.mpr ⟨lw_p6, List.forall_mem_cons.mpr ⟨lw_p7, List.forall_mem_cons.mpr ⟨lw_p8, List.forall_mem_cons.mpr ⟨lw_p9, List.forall_mem_cons.mpr ⟨lw_p10, List.forall_mem_cons.mpr ⟨lw_p11, List.forall_mem_cons.mpr ⟨lw_p12, List.forall_mem_cons.mpr ⟨lw_p13, List.forall_mem_cons.mpr ⟨lw_p14, List.forall_mem_cons.mpr ⟨lw_p15, fun _ h => absurd h List.not_mem_nil⟩⟩⟩⟩⟩⟩⟩⟩⟩⟩⟩⟩⟩⟩⟩⟩
theorem lw_p16 : lw_okq (⟨"MouldFloor$ColourOrders", "fillPurges", "(LMouldFloor$Catalogue;)V"⟩, 2) := ⟨⟨by decide +kernel, by decide +kernel⟩, List.mem_of_getElem? (i := 340) (by decide +kernel), List.mem_of_getElem? (i := 980) (by decide +kernel), List.mem_of_getElem? (i := 981) (by decide +kernel)⟩
theorem lw_p17 : lw_okq (⟨"MouldFloor$ColourOrders", "lowestBest", "(II)I"⟩, 2) := ⟨⟨by decide +kernel, by decide +kernel⟩, List.mem_of_getElem? (i := 340) (by decide +kernel), List.mem_of_getElem? (i := 985) (by decide +kernel), List.mem_of_getElem? (i := 986) (by decide +kernel)⟩
theorem lw_p18 : lw_okq (⟨"MouldFloor$ColourOrders", "sumThrough", "(III)I"⟩, 2) := ⟨⟨by decide +kernel, by decide +kernel⟩, List.mem_of_getElem? (i := 340) (by decide +kernel), List.mem_of_getElem? (i := 990) (by decide +kernel), List.mem_of_getElem? (i := 991) (by decide +kernel)⟩
theorem lw_p19 : lw_okq (⟨"MouldFloor", "checkOrder", "(I)V"⟩, 9) := ⟨⟨by decide +kernel, by decide +kernel⟩, List.mem_of_getElem? (i := 29) (by decide +kernel), List.mem_of_getElem? (i := 1125) (by decide +kernel), List.mem_of_getElem? (i := 1126) (by decide +kernel)⟩
theorem lw_p20 : lw_okq (⟨"MouldFloorModel", "raises", "(I)I"⟩, 19) := ⟨⟨by decide +kernel, by decide +kernel⟩, List.mem_of_getElem? (i := 1254) (by decide +kernel), List.mem_of_getElem? (i := 1326) (by decide +kernel), List.mem_of_getElem? (i := 1327) (by decide +kernel)⟩
theorem lw_p21 : lw_okq (⟨"MouldFloorModel", "tries", "()V"⟩, 19) := ⟨⟨by decide +kernel, by decide +kernel⟩, List.mem_of_getElem? (i := 1254) (by decide +kernel), List.mem_of_getElem? (i := 1334) (by decide +kernel), List.mem_of_getElem? (i := 1335) (by decide +kernel)⟩
theorem lw_p22 : lw_okq (⟨"MouldFloorModel", "doesColour", "(I)Z"⟩, 19) := ⟨⟨by decide +kernel, by decide +kernel⟩, List.mem_of_getElem? (i := 1254) (by decide +kernel), List.mem_of_getElem? (i := 1338) (by decide +kernel), List.mem_of_getElem? (i := 1339) (by decide +kernel)⟩
theorem lw_p23 : lw_okq (⟨"MouldFloorModel", "refuses", "(II)Z"⟩, 19) := ⟨⟨by decide +kernel, by decide +kernel⟩, List.mem_of_getElem? (i := 1254) (by decide +kernel), List.mem_of_getElem? (i := 1345) (by decide +kernel), List.mem_of_getElem? (i := 1346) (by decide +kernel)⟩
theorem lw_p24 : lw_okq (⟨"MouldFloorModel", "is", "(I)Z"⟩, 19) := ⟨⟨by decide +kernel, by decide +kernel⟩, List.mem_of_getElem? (i := 1254) (by decide +kernel), List.mem_of_getElem? (i := 1349) (by decide +kernel), List.mem_of_getElem? (i := 1350) (by decide +kernel)⟩
theorem lw_p25 : lw_okq (⟨"MouldFloorModel", "ends", "(Z)I"⟩, 19) := ⟨⟨by decide +kernel, by decide +kernel⟩, List.mem_of_getElem? (i := 1254) (by decide +kernel), List.mem_of_getElem? (i := 1353) (by decide +kernel), List.mem_of_getElem? (i := 1354) (by decide +kernel)⟩
theorem lw_p26 : lw_okq (⟨"MouldFloorModel", "keeps", "()V"⟩, 19) := ⟨⟨by decide +kernel, by decide +kernel⟩, List.mem_of_getElem? (i := 1254) (by decide +kernel), List.mem_of_getElem? (i := 1357) (by decide +kernel), List.mem_of_getElem? (i := 1358) (by decide +kernel)⟩
theorem lw_p27 : lw_okq (⟨"MouldFloorModel", "doesPart", "(I)Z"⟩, 19) := ⟨⟨by decide +kernel, by decide +kernel⟩, List.mem_of_getElem? (i := 1254) (by decide +kernel), List.mem_of_getElem? (i := 1365) (by decide +kernel), List.mem_of_getElem? (i := 1366) (by decide +kernel)⟩
theorem lw_p28 : lw_okq (⟨"MouldFloorModel", "doesMount", "(I)Z"⟩, 19) := ⟨⟨by decide +kernel, by decide +kernel⟩, List.mem_of_getElem? (i := 1254) (by decide +kernel), List.mem_of_getElem? (i := 1373) (by decide +kernel), List.mem_of_getElem? (i := 1374) (by decide +kernel)⟩
theorem lw_p29 : lw_okq (⟨"MouldFloorModel", "isFamily", "(I)Z"⟩, 19) := ⟨⟨by decide +kernel, by decide +kernel⟩, List.mem_of_getElem? (i := 1254) (by decide +kernel), List.mem_of_getElem? (i := 1377) (by decide +kernel), List.mem_of_getElem? (i := 1378) (by decide +kernel)⟩
theorem lw_p30 : lw_okq (⟨"MouldFloorModel", "passes", "(I)I"⟩, 19) := ⟨⟨by decide +kernel, by decide +kernel⟩, List.mem_of_getElem? (i := 1254) (by decide +kernel), List.mem_of_getElem? (i := 1381) (by decide +kernel), List.mem_of_getElem? (i := 1382) (by decide +kernel)⟩
theorem lw_p31 : lw_okq (⟨"MouldFloorModel", "weekEnds", "()V"⟩, 19) := ⟨⟨by decide +kernel, by decide +kernel⟩, List.mem_of_getElem? (i := 1254) (by decide +kernel), List.mem_of_getElem? (i := 1385) (by decide +kernel), List.mem_of_getElem? (i := 1386) (by decide +kernel)⟩
def lw_privs_2 : List (MethodName × Nat) := [(⟨"MouldFloor$ColourOrders", "fillPurges", "(LMouldFloor$Catalogue;)V"⟩, 2), (⟨"MouldFloor$ColourOrders", "lowestBest", "(II)I"⟩, 2), (⟨"MouldFloor$ColourOrders", "sumThrough", "(III)I"⟩, 2), (⟨"MouldFloor", "checkOrder", "(I)V"⟩, 9), (⟨"MouldFloorModel", "raises", "(I)I"⟩, 19), (⟨"MouldFloorModel", "tries", "()V"⟩, 19), (⟨"MouldFloorModel", "doesColour", "(I)Z"⟩, 19), (⟨"MouldFloorModel", "refuses", "(II)Z"⟩, 19), (⟨"MouldFloorModel", "is", "(I)Z"⟩, 19), (⟨"MouldFloorModel", "ends", "(Z)I"⟩, 19), (⟨"MouldFloorModel", "keeps", "()V"⟩, 19), (⟨"MouldFloorModel", "doesPart", "(I)Z"⟩, 19), (⟨"MouldFloorModel", "doesMount", "(I)Z"⟩, 19), (⟨"MouldFloorModel", "isFamily", "(I)Z"⟩, 19), (⟨"MouldFloorModel", "passes", "(I)I"⟩, 19), (⟨"MouldFloorModel", "weekEnds", "()V"⟩, 19)]
theorem lw_r2 : ∀ q ∈ lw_privs_2, lw_okq q := List.forall_mem_cons.mpr ⟨lw_p16, List.forall_mem_cons.mpr ⟨lw_p17, List.forall_mem_cons.mpr ⟨lw_p18, List.forall_mem_cons.mpr ⟨lw_p19, List.forall_mem_cons.mpr ⟨lw_p20, List.forall_mem_cons.mpr ⟨lw_p21, List.forall_mem_cons.mpr ⟨lw_p22, List.forall_mem_cons.mpr ⟨lw_p23, List.forall_mem_cons.mpr ⟨lw_p24, List.forall_mem_cons.mpr ⟨lw_p25, List.forall_mem_cons.mpr ⟨lw_p26, List.forall_mem_cons.mpr ⟨lw_p27, List.forall_mem_cons.mpr ⟨lw_p28, List.forall_mem_cons.mpr ⟨lw_p29, List.forall_mem_cons.mpr ⟨lw_p30, List.forall_mem_cons.mpr ⟨lw_p31, fun _ h => absurd h List.not_mem_nil⟩⟩⟩⟩⟩⟩⟩⟩⟩⟩⟩⟩⟩⟩⟩⟩
theorem lw_p32 : lw_okq (⟨"MouldFloorModel", "doesLoad", "(III)Z"⟩, 19) := ⟨⟨by decide +kernel, by decide +kernel⟩, List.mem_of_getElem? (i := 1254) (by decide +kernel), List.mem_of_getElem? (i := 1396) (by decide +kernel), List.mem_of_getElem? (i := 1397) (by decide +kernel)⟩
theorem lw_p33 : lw_okq (⟨"MouldFloorModel", "isColour", "(I)Z"⟩, 19) := ⟨⟨by decide +kernel, by decide +kernel⟩, List.mem_of_getElem? (i := 1254) (by decide +kernel), List.mem_of_getElem? (i := 1403) (by decide +kernel), List.mem_of_getElem? (i := 1404) (by decide +kernel)⟩
theorem lw_p34 : lw_okq (⟨"MouldFloorModel", "doesEmpty", "(I)Z"⟩, 19) := ⟨⟨by decide +kernel, by decide +kernel⟩, List.mem_of_getElem? (i := 1254) (by decide +kernel), List.mem_of_getElem? (i := 1412) (by decide +kernel), List.mem_of_getElem? (i := 1413) (by decide +kernel)⟩
theorem lw_p35 : lw_okq (⟨"MouldFloorModel", "becomesEmpty", "(I)V"⟩, 19) := ⟨⟨by decide +kernel, by decide +kernel⟩, List.mem_of_getElem? (i := 1254) (by decide +kernel), List.mem_of_getElem? (i := 1416) (by decide +kernel), List.mem_of_getElem? (i := 1417) (by decide +kernel)⟩
theorem lw_p36 : lw_okq (⟨"MouldFloorModel", "doesPause", "(I)Z"⟩, 19) := ⟨⟨by decide +kernel, by decide +kernel⟩, List.mem_of_getElem? (i := 1254) (by decide +kernel), List.mem_of_getElem? (i := 1424) (by decide +kernel), List.mem_of_getElem? (i := 1425) (by decide +kernel)⟩
theorem lw_p37 : lw_okq (⟨"MouldFloorModel", "doesRun", "(II)Z"⟩, 19) := ⟨⟨by decide +kernel, by decide +kernel⟩, List.mem_of_getElem? (i := 1254) (by decide +kernel), List.mem_of_getElem? (i := 1432) (by decide +kernel), List.mem_of_getElem? (i := 1433) (by decide +kernel)⟩
theorem lw_p38 : lw_okq (⟨"MouldFloorModel", "purgeOf", "(II)I"⟩, 19) := ⟨⟨by decide +kernel, by decide +kernel⟩, List.mem_of_getElem? (i := 1254) (by decide +kernel), List.mem_of_getElem? (i := 1436) (by decide +kernel), List.mem_of_getElem? (i := 1437) (by decide +kernel)⟩
theorem lw_p39 : lw_okq (⟨"MouldFloorModel", "of", "(II)I"⟩, 19) := ⟨⟨by decide +kernel, by decide +kernel⟩, List.mem_of_getElem? (i := 1254) (by decide +kernel), List.mem_of_getElem? (i := 1441) (by decide +kernel), List.mem_of_getElem? (i := 1442) (by decide +kernel)⟩
theorem lw_p40 : lw_okq (⟨"MouldFloorModel", "behind", "(II)V"⟩, 19) := ⟨⟨by decide +kernel, by decide +kernel⟩, List.mem_of_getElem? (i := 1254) (by decide +kernel), List.mem_of_getElem? (i := 1445) (by decide +kernel), List.mem_of_getElem? (i := 1446) (by decide +kernel)⟩
theorem lw_p41 : lw_okq (⟨"MouldFloorModel", "doesOrder", "(IIII)Z"⟩, 19) := ⟨⟨by decide +kernel, by decide +kernel⟩, List.mem_of_getElem? (i := 1254) (by decide +kernel), List.mem_of_getElem? (i := 1453) (by decide +kernel), List.mem_of_getElem? (i := 1454) (by decide +kernel)⟩
theorem lw_p42 : lw_okq (⟨"MouldFloorModel", "isPart", "(I)Z"⟩, 19) := ⟨⟨by decide +kernel, by decide +kernel⟩, List.mem_of_getElem? (i := 1254) (by decide +kernel), List.mem_of_getElem? (i := 1457) (by decide +kernel), List.mem_of_getElem? (i := 1458) (by decide +kernel)⟩
theorem lw_p43 : lw_okq (⟨"MouldFloorModel", "doesCallOff", "(I)Z"⟩, 19) := ⟨⟨by decide +kernel, by decide +kernel⟩, List.mem_of_getElem? (i := 1254) (by decide +kernel), List.mem_of_getElem? (i := 1465) (by decide +kernel), List.mem_of_getElem? (i := 1466) (by decide +kernel)⟩
theorem lw_p44 : lw_okq (⟨"MouldFloorModel", "isOrder", "(I)Z"⟩, 19) := ⟨⟨by decide +kernel, by decide +kernel⟩, List.mem_of_getElem? (i := 1254) (by decide +kernel), List.mem_of_getElem? (i := 1469) (by decide +kernel), List.mem_of_getElem? (i := 1470) (by decide +kernel)⟩
theorem lw_p45 : lw_okq (⟨"MouldFloorModel", "ordered", "(II)I"⟩, 19) := ⟨⟨by decide +kernel, by decide +kernel⟩, List.mem_of_getElem? (i := 1254) (by decide +kernel), List.mem_of_getElem? (i := 1473) (by decide +kernel), List.mem_of_getElem? (i := 1474) (by decide +kernel)⟩
theorem lw_p46 : lw_okq (⟨"MouldFloorModel", "opens", "()I"⟩, 19) := ⟨⟨by decide +kernel, by decide +kernel⟩, List.mem_of_getElem? (i := 1254) (by decide +kernel), List.mem_of_getElem? (i := 1477) (by decide +kernel), List.mem_of_getElem? (i := 1478) (by decide +kernel)⟩
theorem lw_p47 : lw_okq (⟨"MouldFloorModel", "doesSet", "(II)Z"⟩, 19) := ⟨⟨by decide +kernel, by decide +kernel⟩, List.mem_of_getElem? (i := 1254) (by decide +kernel), List.mem_of_getElem? (i := 1485) (by decide +kernel), List.mem_of_getElem? (i := 1486) (by decide +kernel)⟩
def lw_privs_3 : List (MethodName × Nat) := [(⟨"MouldFloorModel", "doesLoad", "(III)Z"⟩, 19), (⟨"MouldFloorModel", "isColour", "(I)Z"⟩, 19), (⟨"MouldFloorModel", "doesEmpty", "(I)Z"⟩, 19), (⟨"MouldFloorModel", "becomesEmpty", "(I)V"⟩, 19), (⟨"MouldFloorModel", "doesPause", "(I)Z"⟩, 19), (⟨"MouldFloorModel", "doesRun", "(II)Z"⟩, 19), (⟨"MouldFloorModel", "purgeOf", "(II)I"⟩, 19), (⟨"MouldFloorModel", "of", "(II)I"⟩, 19), (⟨"MouldFloorModel", "behind", "(II)V"⟩, 19), (⟨"MouldFloorModel", "doesOrder", "(IIII)Z"⟩, 19), (⟨"MouldFloorModel", "isPart", "(I)Z"⟩, 19), (⟨"MouldFloorModel", "doesCallOff", "(I)Z"⟩, 19), (⟨"MouldFloorModel", "isOrder", "(I)Z"⟩, 19), (⟨"MouldFloorModel", "ordered", "(II)I"⟩, 19), (⟨"MouldFloorModel", "opens", "()I"⟩, 19), (⟨"MouldFloorModel", "doesSet", "(II)Z"⟩, 19)]
theorem lw_r3 : ∀ q ∈ lw_privs_3, lw_okq q := List.forall_mem_cons.mpr ⟨lw_p32, List.forall_mem_cons.mpr ⟨lw_p33, List.forall_mem_cons.mpr ⟨lw_p34, List.forall_mem_cons.mpr ⟨lw_p35, List.forall_mem_cons.mpr ⟨lw_p36, List.forall_mem_cons.mpr ⟨lw_p37, List.forall_mem_cons.mpr ⟨lw_p38, List.forall_mem_cons.mpr ⟨lw_p39, List.forall_mem_cons.mpr ⟨lw_p40, List.forall_mem_cons.mpr ⟨lw_p41, List.forall_mem_cons.mpr ⟨lw_p42, List.forall_mem_cons.mpr ⟨lw_p43, List.forall_mem_cons.mpr ⟨lw_p44, List.forall_mem_cons.mpr ⟨lw_p45, List.forall_mem_cons.mpr ⟨lw_p46, List.forall_mem_cons.mpr ⟨lw_p47, fun _ h => absurd h List.not_mem_nil⟩⟩⟩⟩⟩⟩⟩⟩⟩⟩⟩⟩⟩⟩⟩⟩
theorem lw_p48 : lw_okq (⟨"MouldFloorModel", "isFamilyText", "()Z"⟩, 19) := ⟨⟨by decide +kernel, by decide +kernel⟩, List.mem_of_getElem? (i := 1254) (by decide +kernel), List.mem_of_getElem? (i := 1493) (by decide +kernel), List.mem_of_getElem? (i := 1494) (by decide +kernel)⟩
theorem lw_p49 : lw_okq (⟨"MouldFloorModel", "number", "(II)Z"⟩, 19) := ⟨⟨by decide +kernel, by decide +kernel⟩, List.mem_of_getElem? (i := 1254) (by decide +kernel), List.mem_of_getElem? (i := 1497) (by decide +kernel), List.mem_of_getElem? (i := 1498) (by decide +kernel)⟩
theorem lw_p50 : lw_okq (⟨"MouldFloorModel", "takes", "(C)Z"⟩, 19) := ⟨⟨by decide +kernel, by decide +kernel⟩, List.mem_of_getElem? (i := 1254) (by decide +kernel), List.mem_of_getElem? (i := 1501) (by decide +kernel), List.mem_of_getElem? (i := 1502) (by decide +kernel)⟩
theorem lw_p51 : lw_okq (⟨"MouldFloorModel", "doesFamily", "()Z"⟩, 19) := ⟨⟨by decide +kernel, by decide +kernel⟩, List.mem_of_getElem? (i := 1254) (by decide +kernel), List.mem_of_getElem? (i := 1505) (by decide +kernel), List.mem_of_getElem? (i := 1506) (by decide +kernel)⟩
theorem lw_p52 : lw_okq (⟨"MouldFloorModel", "isCommand", "(I)Z"⟩, 19) := ⟨⟨by decide +kernel, by decide +kernel⟩, List.mem_of_getElem? (i := 1254) (by decide +kernel), List.mem_of_getElem? (i := 1513) (by decide +kernel), List.mem_of_getElem? (i := 1514) (by decide +kernel)⟩
theorem lw_p53 : lw_okq (⟨"MouldFloorModel", "does", "(I)Z"⟩, 19) := ⟨⟨by decide +kernel, by decide +kernel⟩, List.mem_of_getElem? (i := 1254) (by decide +kernel), List.mem_of_getElem? (i := 1517) (by decide +kernel), List.mem_of_getElem? (i := 1518) (by decide +kernel)⟩
theorem lw_p54 : lw_okq (⟨"MouldFloorModel", "comesBack", "()V"⟩, 19) := ⟨⟨by decide +kernel, by decide +kernel⟩, List.mem_of_getElem? (i := 1254) (by decide +kernel), List.mem_of_getElem? (i := 1521) (by decide +kernel), List.mem_of_getElem? (i := 1522) (by decide +kernel)⟩
theorem lw_p55 : lw_okq (⟨"MouldFloorModel", "isSet", "(I)Z"⟩, 19) := ⟨⟨by decide +kernel, by decide +kernel⟩, List.mem_of_getElem? (i := 1254) (by decide +kernel), List.mem_of_getElem? (i := 1541) (by decide +kernel), List.mem_of_getElem? (i := 1542) (by decide +kernel)⟩
theorem lw_p56 : lw_okq (⟨"MouldFloorModel", "orders", "(III)V"⟩, 19) := ⟨⟨by decide +kernel, by decide +kernel⟩, List.mem_of_getElem? (i := 1254) (by decide +kernel), List.mem_of_getElem? (i := 1545) (by decide +kernel), List.mem_of_getElem? (i := 1546) (by decide +kernel)⟩
theorem lw_p57 : lw_okq (⟨"MouldFloorModel", "piecesOf", "(II)I"⟩, 19) := ⟨⟨by decide +kernel, by decide +kernel⟩, List.mem_of_getElem? (i := 1254) (by decide +kernel), List.mem_of_getElem? (i := 1566) (by decide +kernel), List.mem_of_getElem? (i := 1567) (by decide +kernel)⟩
def lw_privs_4 : List (MethodName × Nat) := [(⟨"MouldFloorModel", "isFamilyText", "()Z"⟩, 19), (⟨"MouldFloorModel", "number", "(II)Z"⟩, 19), (⟨"MouldFloorModel", "takes", "(C)Z"⟩, 19), (⟨"MouldFloorModel", "doesFamily", "()Z"⟩, 19), (⟨"MouldFloorModel", "isCommand", "(I)Z"⟩, 19), (⟨"MouldFloorModel", "does", "(I)Z"⟩, 19), (⟨"MouldFloorModel", "comesBack", "()V"⟩, 19), (⟨"MouldFloorModel", "isSet", "(I)Z"⟩, 19), (⟨"MouldFloorModel", "orders", "(III)V"⟩, 19), (⟨"MouldFloorModel", "piecesOf", "(II)I"⟩, 19)]
theorem lw_r4 : ∀ q ∈ lw_privs_4, lw_okq q := List.forall_mem_cons.mpr ⟨lw_p48, List.forall_mem_cons.mpr ⟨lw_p49, List.forall_mem_cons.mpr ⟨lw_p50, List.forall_mem_cons.mpr ⟨lw_p51, List.forall_mem_cons.mpr ⟨lw_p52, List.forall_mem_cons.mpr ⟨lw_p53, List.forall_mem_cons.mpr ⟨lw_p54, List.forall_mem_cons.mpr ⟨lw_p55, List.forall_mem_cons.mpr ⟨lw_p56, List.forall_mem_cons.mpr ⟨lw_p57, fun _ h => absurd h List.not_mem_nil⟩⟩⟩⟩⟩⟩⟩⟩⟩⟩
def lw_privs : List (MethodName × Nat) := lw_privs_1 ++ (lw_privs_2 ++ (lw_privs_3 ++ (lw_privs_4)))
def lw_tbl : List Cond := k2_sels lw_privs ++ tables_1
theorem lw_privs_ok : ∀ q ∈ lw_privs, lw_okq q := by
  show ∀ q ∈ lw_privs_1 ++ (lw_privs_2 ++ (lw_privs_3 ++ (lw_privs_4))), lw_okq q
  exact List.forall_mem_append.mpr ⟨lw_r1, List.forall_mem_append.mpr ⟨lw_r2, List.forall_mem_append.mpr ⟨lw_r3, lw_r4⟩⟩⟩
/-- the streams that the claim lets the run draw from -/
abbrev lw_cs : List Choice := [Jvm.Choice.named "NaN.bits"]
theorem lw_bits : nanBits ∈ lw_cs := by first | decide | exact List.mem_cons_self | simp [lw_cs, nanBits]
end
section
/-! ===== BEGIN printed: names, fields, word lists, decode rows ===== -/
def RX0 : String := "MouldFloor$Catalogue"
def TX0 : u_T := fun k => match k with
  | 0 => ("MouldFloor$Catalogue", "colourCount", "I", false)
  | 1 => ("MouldFloor$Catalogue", "partCount", "I", false)
  | 2 => ("MouldFloor$Catalogue", "familyCount", "I", false)
  | 3 => ("MouldFloor$Catalogue", "shades", "[I", true)
  | 4 => ("MouldFloor$Catalogue", "crateSizes", "[I", true)
  | 5 => ("MouldFloor$Catalogue", "cycles", "[I", true)
  | 6 => ("MouldFloor$Catalogue", "weights", "[I", true)
  | 7 => ("MouldFloor$Catalogue", "piecesOfShot", "[I", true)
  | _ => ("MouldFloor$Catalogue", "settings", "[I", true)
def tyX0 : Nat → FieldType := fun k => match k with
  | 0 => .int
  | 1 => .int
  | 2 => .int
  | 3 => .array .int
  | 4 => .array .int
  | 5 => .array .int
  | 6 => .array .int
  | 7 => .array .int
  | _ => .array .int
abbrev wsX00 : List Cond := u_ws RX0 TX0 9
theorem nmX0 : ∀ a, a < 9 → ∀ b, b < 9 → a ≠ b → (TX0 a).2.1 ≠ (TX0 b).2.1 := by decide +kernel
theorem tyX0_ok : ∀ k, k < 9 → parseFieldDescriptor (TX0 k).2.2.1 = some (tyX0 k) := by decide +kernel
abbrev cX0_init : ByteArray := prog_2_method_1_code
def yX0_init : MethodName := ⟨RX0, "<init>", "()V"⟩
abbrev cX0_copyFrom : ByteArray := prog_2_method_2_code
def yX0_copyFrom : MethodName := ⟨RX0, "copyFrom", "(LMouldFloor$Catalogue;)V"⟩
abbrev cX0_isColour : ByteArray := prog_2_method_3_code
def yX0_isColour : MethodName := ⟨RX0, "isColour", "(I)Z"⟩
abbrev cX0_isPart : ByteArray := prog_2_method_4_code
def yX0_isPart : MethodName := ⟨RX0, "isPart", "(I)Z"⟩
abbrev cX0_isFamily : ByteArray := prog_2_method_5_code
def yX0_isFamily : MethodName := ⟨RX0, "isFamily", "(I)Z"⟩
abbrev cX0_addColour : ByteArray := prog_2_method_6_code
def yX0_addColour : MethodName := ⟨RX0, "addColour", "(ILMouldFloor$Reasons;)I"⟩
abbrev cX0_addPart : ByteArray := prog_2_method_7_code
def yX0_addPart : MethodName := ⟨RX0, "addPart", "(ILMouldFloor$Reasons;)I"⟩
abbrev cX0_addFamily : ByteArray := prog_2_method_8_code
def yX0_addFamily : MethodName := ⟨RX0, "addFamily", "(LMouldFloor$FamilyText;LMouldFloor$Reasons;)I"⟩
abbrev cX0_changeSetting : ByteArray := prog_2_method_9_code
def yX0_changeSetting : MethodName := ⟨RX0, "changeSetting", "(IILMouldFloor$Reasons;)I"⟩
abbrev cX0_purgeShots : ByteArray := prog_2_method_10_code
def yX0_purgeShots : MethodName := ⟨RX0, "purgeShots", "(II)I"⟩
abbrev cX0_piecesOf : ByteArray := prog_2_method_11_code
def yX0_piecesOf : MethodName := ⟨RX0, "piecesOf", "(II)I"⟩
abbrev cX0_partsOf : ByteArray := prog_2_method_12_code
def yX0_partsOf : MethodName := ⟨RX0, "partsOf", "(I)I"⟩
abbrev cX0_allPiecesOf : ByteArray := prog_2_method_13_code
def yX0_allPiecesOf : MethodName := ⟨RX0, "allPiecesOf", "(I)I"⟩
abbrev cX0_familiesWith : ByteArray := prog_2_method_14_code
def yX0_familiesWith : MethodName := ⟨RX0, "familiesWith", "(I)I"⟩
def RX1 : String := "MouldFloor$ColourOrders"
def TX1 : u_T := fun k => match k with
  | 0 => ("MouldFloor$ColourOrders", "purges", "[I", true)
  | _ => ("MouldFloor$ColourOrders", "sums", "[I", true)
def tyX1 : Nat → FieldType := fun k => match k with
  | 0 => .array .int
  | _ => .array .int
abbrev wsX10 : List Cond := u_ws RX1 TX1 2
theorem nmX1 : ∀ a, a < 2 → ∀ b, b < 2 → a ≠ b → (TX1 a).2.1 ≠ (TX1 b).2.1 := by decide +kernel
theorem tyX1_ok : ∀ k, k < 2 → parseFieldDescriptor (TX1 k).2.2.1 = some (tyX1 k) := by decide +kernel
abbrev cX1_init : ByteArray := prog_3_method_1_code
def yX1_init : MethodName := ⟨RX1, "<init>", "()V"⟩
abbrev cX1_leastSum : ByteArray := prog_3_method_2_code
def yX1_leastSum : MethodName := ⟨RX1, "leastSum", "(LMouldFloor$Floor;I)I"⟩
abbrev cX1_leastSumByTrying : ByteArray := prog_3_method_3_code
def yX1_leastSumByTrying : MethodName := ⟨RX1, "leastSumByTrying", "(LMouldFloor$Floor;I)I"⟩
abbrev cX1_colourAt : ByteArray := prog_3_method_4_code
def yX1_colourAt : MethodName := ⟨RX1, "colourAt", "(LMouldFloor$Floor;II)I"⟩
abbrev cX1_lowestBest : ByteArray := prog_3_method_5_code
def yX1_lowestBest : MethodName := ⟨RX1, "lowestBest", "(II)I"⟩
abbrev cX1_sumThrough : ByteArray := prog_3_method_6_code
def yX1_sumThrough : MethodName := ⟨RX1, "sumThrough", "(III)I"⟩
abbrev cX1_fillPurges : ByteArray := prog_3_method_7_code
def yX1_fillPurges : MethodName := ⟨RX1, "fillPurges", "(LMouldFloor$Catalogue;)V"⟩
abbrev cX1_fillSums : ByteArray := prog_3_method_8_code
def yX1_fillSums : MethodName := ⟨RX1, "fillSums", "(LMouldFloor$Catalogue;I)V"⟩
abbrev cX1_tried : ByteArray := prog_3_method_9_code
def yX1_tried : MethodName := ⟨RX1, "tried", "([IIII)I"⟩
def RX2 : String := "MouldFloor$Dryers"
def TX2 : u_T := fun k => match k with
  | 0 => ("MouldFloor$Dryers", "colours", "[I", true)
  | 1 => ("MouldFloor$Dryers", "grams", "[I", true)
  | _ => ("MouldFloor$Dryers", "dried", "[I", true)
def tyX2 : Nat → FieldType := fun k => match k with
  | 0 => .array .int
  | 1 => .array .int
  | _ => .array .int
abbrev wsX20 : List Cond := u_ws RX2 TX2 3
theorem nmX2 : ∀ a, a < 3 → ∀ b, b < 3 → a ≠ b → (TX2 a).2.1 ≠ (TX2 b).2.1 := by decide +kernel
theorem tyX2_ok : ∀ k, k < 3 → parseFieldDescriptor (TX2 k).2.2.1 = some (tyX2 k) := by decide +kernel
abbrev cX2_init : ByteArray := prog_4_method_1_code
def yX2_init : MethodName := ⟨RX2, "<init>", "()V"⟩
abbrev cX2_copyFrom : ByteArray := prog_4_method_2_code
def yX2_copyFrom : MethodName := ⟨RX2, "copyFrom", "(LMouldFloor$Dryers;)V"⟩
abbrev cX2_fill : ByteArray := prog_4_method_3_code
def yX2_fill : MethodName := ⟨RX2, "fill", "(IIILMouldFloor$Reasons;)I"⟩
abbrev cX2_takeAll : ByteArray := prog_4_method_4_code
def yX2_takeAll : MethodName := ⟨RX2, "takeAll", "(ILMouldFloor$Reasons;)I"⟩
abbrev cX2_take : ByteArray := prog_4_method_5_code
def yX2_take : MethodName := ⟨RX2, "take", "(II)V"⟩
abbrev cX2_dry : ByteArray := prog_4_method_6_code
def yX2_dry : MethodName := ⟨RX2, "dry", "(I)V"⟩
abbrev cX2_lackingMinutes : ByteArray := prog_4_method_7_code
def yX2_lackingMinutes : MethodName := ⟨RX2, "lackingMinutes", "(II)I"⟩
abbrev cX2_lowestWith : ByteArray := prog_4_method_8_code
def yX2_lowestWith : MethodName := ⟨RX2, "lowestWith", "(I)I"⟩
abbrev cX2_lowestUsable : ByteArray := prog_4_method_9_code
def yX2_lowestUsable : MethodName := ⟨RX2, "lowestUsable", "(III)I"⟩
abbrev cX2_allGrams : ByteArray := prog_4_method_10_code
def yX2_allGrams : MethodName := ⟨RX2, "allGrams", "()I"⟩
def RX3 : String := "MouldFloor$FamilyText"
def TX3 : u_T := fun k => match k with
  | 0 => ("MouldFloor$FamilyText", "parts", "[I", true)
  | 1 => ("MouldFloor$FamilyText", "pieces", "[I", true)
  | 2 => ("MouldFloor$FamilyText", "count", "I", false)
  | 3 => ("MouldFloor$FamilyText", "cycle", "I", false)
  | _ => ("MouldFloor$FamilyText", "weight", "I", false)
def tyX3 : Nat → FieldType := fun k => match k with
  | 0 => .array .int
  | 1 => .array .int
  | 2 => .int
  | 3 => .int
  | _ => .int
abbrev wsX30 : List Cond := u_ws RX3 TX3 5
theorem nmX3 : ∀ a, a < 5 → ∀ b, b < 5 → a ≠ b → (TX3 a).2.1 ≠ (TX3 b).2.1 := by decide +kernel
theorem tyX3_ok : ∀ k, k < 5 → parseFieldDescriptor (TX3 k).2.2.1 = some (tyX3 k) := by decide +kernel
abbrev cX3_init : ByteArray := prog_5_method_1_code
def yX3_init : MethodName := ⟨RX3, "<init>", "()V"⟩
abbrev cX3_isReadFrom : ByteArray := prog_5_method_2_code
def yX3_isReadFrom : MethodName := ⟨RX3, "isReadFrom", "(LMouldFloor$Text;)Z"⟩
abbrev cX3_isHeadRead : ByteArray := prog_5_method_3_code
def yX3_isHeadRead : MethodName := ⟨RX3, "isHeadRead", "(LMouldFloor$Text;)Z"⟩
abbrev cX3_isPartRead : ByteArray := prog_5_method_4_code
def yX3_isPartRead : MethodName := ⟨RX3, "isPartRead", "(LMouldFloor$Text;)Z"⟩
abbrev cX3_isTailRead : ByteArray := prog_5_method_5_code
def yX3_isTailRead : MethodName := ⟨RX3, "isTailRead", "(LMouldFloor$Text;)Z"⟩
abbrev cX3_hasZero : ByteArray := prog_5_method_6_code
def yX3_hasZero : MethodName := ⟨RX3, "hasZero", "()Z"⟩
abbrev cX3_highestPart : ByteArray := prog_5_method_7_code
def yX3_highestPart : MethodName := ⟨RX3, "highestPart", "()I"⟩
abbrev cX3_partTwice : ByteArray := prog_5_method_8_code
def yX3_partTwice : MethodName := ⟨RX3, "partTwice", "()I"⟩
abbrev cX3_piecesFor : ByteArray := prog_5_method_9_code
def yX3_piecesFor : MethodName := ⟨RX3, "piecesFor", "(I)I"⟩
def RX4 : String := "MouldFloor$Floor"
def TX4 : u_T := fun k => match k with
  | 0 => ("MouldFloor$Floor", "catalogue", "LMouldFloor$Catalogue;", true)
  | 1 => ("MouldFloor$Floor", "dryers", "LMouldFloor$Dryers;", true)
  | 2 => ("MouldFloor$Floor", "stock", "LMouldFloor$Stock;", true)
  | 3 => ("MouldFloor$Floor", "orders", "LMouldFloor$Orders;", true)
  | 4 => ("MouldFloor$Floor", "now", "I", false)
  | 5 => ("MouldFloor$Floor", "week", "I", false)
  | 6 => ("MouldFloor$Floor", "minutesOfWeek", "I", false)
  | 7 => ("MouldFloor$Floor", "colour", "I", false)
  | 8 => ("MouldFloor$Floor", "mounted", "I", false)
  | 9 => ("MouldFloor$Floor", "gramsTaken", "I", false)
  | 10 => ("MouldFloor$Floor", "shotsOfRuns", "I", false)
  | _ => ("MouldFloor$Floor", "shotsOfPurges", "I", false)
def tyX4 : Nat → FieldType := fun k => match k with
  | 0 => .object "MouldFloor$Catalogue"
  | 1 => .object "MouldFloor$Dryers"
  | 2 => .object "MouldFloor$Stock"
  | 3 => .object "MouldFloor$Orders"
  | 4 => .int
  | 5 => .int
  | 6 => .int
  | 7 => .int
  | 8 => .int
  | 9 => .int
  | 10 => .int
  | _ => .int
abbrev wsX40 : List Cond := u_ws RX4 TX4 12
theorem nmX4 : ∀ a, a < 12 → ∀ b, b < 12 → a ≠ b → (TX4 a).2.1 ≠ (TX4 b).2.1 := by decide +kernel
theorem tyX4_ok : ∀ k, k < 12 → parseFieldDescriptor (TX4 k).2.2.1 = some (tyX4 k) := by decide +kernel
abbrev cX4_init : ByteArray := prog_6_method_1_code
def yX4_init : MethodName := ⟨RX4, "<init>", "()V"⟩
abbrev cX4_copyFrom : ByteArray := prog_6_method_2_code
def yX4_copyFrom : MethodName := ⟨RX4, "copyFrom", "(LMouldFloor$Floor;)V"⟩
abbrev cX4_mountFamily : ByteArray := prog_6_method_3_code
def yX4_mountFamily : MethodName := ⟨RX4, "mountFamily", "(ILMouldFloor$Reasons;)I"⟩
abbrev cX4_loadDryer : ByteArray := prog_6_method_4_code
def yX4_loadDryer : MethodName := ⟨RX4, "loadDryer", "(IIILMouldFloor$Reasons;)I"⟩
abbrev cX4_waitMinutes : ByteArray := prog_6_method_5_code
def yX4_waitMinutes : MethodName := ⟨RX4, "waitMinutes", "(ILMouldFloor$Reasons;)I"⟩
abbrev cX4_addOrder : ByteArray := prog_6_method_6_code
def yX4_addOrder : MethodName := ⟨RX4, "addOrder", "(IIIILMouldFloor$Reasons;)I"⟩
abbrev cX4_runShots : ByteArray := prog_6_method_7_code
def yX4_runShots : MethodName := ⟨RX4, "runShots", "(IILMouldFloor$Reasons;)I"⟩
abbrev cX4_refuseForDryers : ByteArray := prog_6_method_8_code
def yX4_refuseForDryers : MethodName := ⟨RX4, "refuseForDryers", "(IILMouldFloor$Reasons;)I"⟩
abbrev cX4_putPieces : ByteArray := prog_6_method_9_code
def yX4_putPieces : MethodName := ⟨RX4, "putPieces", "(II)V"⟩
abbrev cX4_pass : ByteArray := prog_6_method_10_code
def yX4_pass : MethodName := ⟨RX4, "pass", "(I)I"⟩
abbrev cX4_piecesFor : ByteArray := prog_6_method_11_code
def yX4_piecesFor : MethodName := ⟨RX4, "piecesFor", "(I)I"⟩
abbrev cX4_lackingPieces : ByteArray := prog_6_method_12_code
def yX4_lackingPieces : MethodName := ⟨RX4, "lackingPieces", "(I)I"⟩
def RX5 : String := "MouldFloor$History"
def TX5 : u_T := fun k => match k with
  | 0 => ("MouldFloor$History", "floors", "[LMouldFloor$Floor;", true)
  | 1 => ("MouldFloor$History", "oldest", "I", false)
  | _ => ("MouldFloor$History", "count", "I", false)
def tyX5 : Nat → FieldType := fun k => match k with
  | 0 => .array (.object "MouldFloor$Floor")
  | 1 => .int
  | _ => .int
abbrev wsX50 : List Cond := u_ws RX5 TX5 3
theorem nmX5 : ∀ a, a < 3 → ∀ b, b < 3 → a ≠ b → (TX5 a).2.1 ≠ (TX5 b).2.1 := by decide +kernel
theorem tyX5_ok : ∀ k, k < 3 → parseFieldDescriptor (TX5 k).2.2.1 = some (tyX5 k) := by decide +kernel
abbrev cX5_init : ByteArray := prog_7_method_1_code
def yX5_init : MethodName := ⟨RX5, "<init>", "()V"⟩
abbrev cX5_begin : ByteArray := prog_7_method_2_code
def yX5_begin : MethodName := ⟨RX5, "begin", "(LMouldFloor$Floor;)V"⟩
abbrev cX5_keep : ByteArray := prog_7_method_3_code
def yX5_keep : MethodName := ⟨RX5, "keep", "()V"⟩
abbrev cX5_rollBack : ByteArray := prog_7_method_4_code
def yX5_rollBack : MethodName := ⟨RX5, "rollBack", "(LMouldFloor$Floor;)V"⟩
abbrev cX5_takeBack : ByteArray := prog_7_method_5_code
def yX5_takeBack : MethodName := ⟨RX5, "takeBack", "(LMouldFloor$Floor;)V"⟩
abbrev cX5_forget : ByteArray := prog_7_method_6_code
def yX5_forget : MethodName := ⟨RX5, "forget", "()V"⟩
abbrev cX5_roomBehind : ByteArray := prog_7_method_7_code
def yX5_roomBehind : MethodName := ⟨RX5, "roomBehind", "()I"⟩
def RX6 : String := "MouldFloor$Orders"
def TX6 : u_T := fun k => match k with
  | 0 => ("MouldFloor$Orders", "count", "I", false)
  | 1 => ("MouldFloor$Orders", "parts", "[I", true)
  | 2 => ("MouldFloor$Orders", "colours", "[I", true)
  | 3 => ("MouldFloor$Orders", "crates", "[I", true)
  | 4 => ("MouldFloor$Orders", "weeks", "[I", true)
  | 5 => ("MouldFloor$Orders", "states", "[I", true)
  | _ => ("MouldFloor$Orders", "lateWeeks", "[I", true)
def tyX6 : Nat → FieldType := fun k => match k with
  | 0 => .int
  | 1 => .array .int
  | 2 => .array .int
  | 3 => .array .int
  | 4 => .array .int
  | 5 => .array .int
  | _ => .array .int
abbrev wsX60 : List Cond := u_ws RX6 TX6 7
theorem nmX6 : ∀ a, a < 7 → ∀ b, b < 7 → a ≠ b → (TX6 a).2.1 ≠ (TX6 b).2.1 := by decide +kernel
theorem tyX6_ok : ∀ k, k < 7 → parseFieldDescriptor (TX6 k).2.2.1 = some (tyX6 k) := by decide +kernel
abbrev cX6_init : ByteArray := prog_8_method_1_code
def yX6_init : MethodName := ⟨RX6, "<init>", "()V"⟩
abbrev cX6_copyFrom : ByteArray := prog_8_method_2_code
def yX6_copyFrom : MethodName := ⟨RX6, "copyFrom", "(LMouldFloor$Orders;)V"⟩
abbrev cX6_isOrder : ByteArray := prog_8_method_3_code
def yX6_isOrder : MethodName := ⟨RX6, "isOrder", "(I)Z"⟩
abbrev cX6_isOpen : ByteArray := prog_8_method_4_code
def yX6_isOpen : MethodName := ⟨RX6, "isOpen", "(I)Z"⟩
abbrev cX6_add : ByteArray := prog_8_method_5_code
def yX6_add : MethodName := ⟨RX6, "add", "(IIIILMouldFloor$Reasons;)I"⟩
abbrev cX6_close : ByteArray := prog_8_method_6_code
def yX6_close : MethodName := ⟨RX6, "close", "(ILMouldFloor$Reasons;)I"⟩
abbrev cX6_endWeek : ByteArray := prog_8_method_7_code
def yX6_endWeek : MethodName := ⟨RX6, "endWeek", "(ILMouldFloor$Stock;)V"⟩
abbrev cX6_countOf : ByteArray := prog_8_method_8_code
def yX6_countOf : MethodName := ⟨RX6, "countOf", "(I)I"⟩
abbrev cX6_lateWeeksOfDelivered : ByteArray := prog_8_method_9_code
def yX6_lateWeeksOfDelivered : MethodName := ⟨RX6, "lateWeeksOfDelivered", "()I"⟩
abbrev cX6_openUpTo : ByteArray := prog_8_method_10_code
def yX6_openUpTo : MethodName := ⟨RX6, "openUpTo", "(I)I"⟩
def RX7 : String := "MouldFloor$ProgramText"
def TX7 : u_T := fun k => match k with
  | 0 => ("MouldFloor$ProgramText", "kinds", "[I", true)
  | 1 => ("MouldFloor$ProgramText", "numbers", "[I", true)
  | _ => ("MouldFloor$ProgramText", "count", "I", false)
def tyX7 : Nat → FieldType := fun k => match k with
  | 0 => .array .int
  | 1 => .array .int
  | _ => .int
abbrev wsX70 : List Cond := u_ws RX7 TX7 3
theorem nmX7 : ∀ a, a < 3 → ∀ b, b < 3 → a ≠ b → (TX7 a).2.1 ≠ (TX7 b).2.1 := by decide +kernel
theorem tyX7_ok : ∀ k, k < 3 → parseFieldDescriptor (TX7 k).2.2.1 = some (tyX7 k) := by decide +kernel
abbrev cX7_init : ByteArray := prog_9_method_1_code
def yX7_init : MethodName := ⟨RX7, "<init>", "()V"⟩
abbrev cX7_isReadFrom : ByteArray := prog_9_method_2_code
def yX7_isReadFrom : MethodName := ⟨RX7, "isReadFrom", "(LMouldFloor$Text;)Z"⟩
abbrev cX7_areCommandsRead : ByteArray := prog_9_method_3_code
def yX7_areCommandsRead : MethodName := ⟨RX7, "areCommandsRead", "(LMouldFloor$Text;)Z"⟩
abbrev cX7_isCommandRead : ByteArray := prog_9_method_4_code
def yX7_isCommandRead : MethodName := ⟨RX7, "isCommandRead", "(LMouldFloor$Text;I)Z"⟩
abbrev cX7_isNumberRead : ByteArray := prog_9_method_5_code
def yX7_isNumberRead : MethodName := ⟨RX7, "isNumberRead", "(LMouldFloor$Text;III)Z"⟩
abbrev cX7_kindOf : ByteArray := prog_9_method_6_code
def yX7_kindOf : MethodName := ⟨RX7, "kindOf", "(I)I"⟩
abbrev cX7_numberOf : ByteArray := prog_9_method_7_code
def yX7_numberOf : MethodName := ⟨RX7, "numberOf", "(II)I"⟩
def RX8 : String := "MouldFloor$Reasons"
def TX8 : u_T := fun k => match k with
  | 0 => ("MouldFloor$Reasons", "numbers", "[I", true)
  | 1 => ("MouldFloor$Reasons", "details", "[I", true)
  | _ => ("MouldFloor$Reasons", "count", "I", false)
def tyX8 : Nat → FieldType := fun k => match k with
  | 0 => .array .int
  | 1 => .array .int
  | _ => .int
abbrev wsX80 : List Cond := u_ws RX8 TX8 3
theorem nmX8 : ∀ a, a < 3 → ∀ b, b < 3 → a ≠ b → (TX8 a).2.1 ≠ (TX8 b).2.1 := by decide +kernel
theorem tyX8_ok : ∀ k, k < 3 → parseFieldDescriptor (TX8 k).2.2.1 = some (tyX8 k) := by decide +kernel
abbrev cX8_init : ByteArray := prog_10_method_1_code
def yX8_init : MethodName := ⟨RX8, "<init>", "()V"⟩
abbrev cX8_refuse : ByteArray := prog_10_method_2_code
def yX8_refuse : MethodName := ⟨RX8, "refuse", "(II)I"⟩
abbrev cX8_putBehind : ByteArray := prog_10_method_3_code
def yX8_putBehind : MethodName := ⟨RX8, "putBehind", "(II)V"⟩
abbrev cX8_putAhead : ByteArray := prog_10_method_4_code
def yX8_putAhead : MethodName := ⟨RX8, "putAhead", "(II)V"⟩
def RX9 : String := "MouldFloor$Stock"
def TX9 : u_T := fun k => match k with
  | 0 => ("MouldFloor$Stock", "closed", "[I", true)
  | 1 => ("MouldFloor$Stock", "open", "[I", true)
  | 2 => ("MouldFloor$Stock", "delivered", "[I", true)
  | 3 => ("MouldFloor$Stock", "pieces", "[I", true)
  | _ => ("MouldFloor$Stock", "scrapPieces", "[I", true)
def tyX9 : Nat → FieldType := fun k => match k with
  | 0 => .array .int
  | 1 => .array .int
  | 2 => .array .int
  | 3 => .array .int
  | _ => .array .int
abbrev wsX90 : List Cond := u_ws RX9 TX9 5
theorem nmX9 : ∀ a, a < 5 → ∀ b, b < 5 → a ≠ b → (TX9 a).2.1 ≠ (TX9 b).2.1 := by decide +kernel
theorem tyX9_ok : ∀ k, k < 5 → parseFieldDescriptor (TX9 k).2.2.1 = some (tyX9 k) := by decide +kernel
abbrev cX9_init : ByteArray := prog_11_method_1_code
def yX9_init : MethodName := ⟨RX9, "<init>", "()V"⟩
abbrev cX9_copyFrom : ByteArray := prog_11_method_2_code
def yX9_copyFrom : MethodName := ⟨RX9, "copyFrom", "(LMouldFloor$Stock;)V"⟩
abbrev cX9_addScrap : ByteArray := prog_11_method_3_code
def yX9_addScrap : MethodName := ⟨RX9, "addScrap", "(II)V"⟩
abbrev cX9_addPieces : ByteArray := prog_11_method_4_code
def yX9_addPieces : MethodName := ⟨RX9, "addPieces", "(IIII)V"⟩
abbrev cX9_isDelivered : ByteArray := prog_11_method_5_code
def yX9_isDelivered : MethodName := ⟨RX9, "isDelivered", "(III)Z"⟩
abbrev cX9_cratesOf : ByteArray := prog_11_method_6_code
def yX9_cratesOf : MethodName := ⟨RX9, "cratesOf", "(I)I"⟩
abbrev cX9_restOf : ByteArray := prog_11_method_7_code
def yX9_restOf : MethodName := ⟨RX9, "restOf", "(I)I"⟩
abbrev cX9_sumOf : ByteArray := prog_11_method_8_code
def yX9_sumOf : MethodName := ⟨RX9, "sumOf", "([I)I"⟩
def RX10 : String := "MouldFloor$Text"
def TX10 : u_T := fun k => match k with
  | 0 => ("MouldFloor$Text", "characters", "[C", true)
  | 1 => ("MouldFloor$Text", "next", "I", false)
  | 2 => ("MouldFloor$Text", "length", "I", false)
  | _ => ("MouldFloor$Text", "fault", "I", false)
def tyX10 : Nat → FieldType := fun k => match k with
  | 0 => .array .char
  | 1 => .int
  | 2 => .int
  | _ => .int
abbrev wsX100 : List Cond := u_ws RX10 TX10 4
theorem nmX10 : ∀ a, a < 4 → ∀ b, b < 4 → a ≠ b → (TX10 a).2.1 ≠ (TX10 b).2.1 := by decide +kernel
theorem tyX10_ok : ∀ k, k < 4 → parseFieldDescriptor (TX10 k).2.2.1 = some (tyX10 k) := by decide +kernel
abbrev cX10_init : ByteArray := prog_12_method_1_code
def yX10_init : MethodName := ⟨RX10, "<init>", "()V"⟩
abbrev cX10_add : ByteArray := prog_12_method_2_code
def yX10_add : MethodName := ⟨RX10, "add", "(C)Z"⟩
abbrev cX10_clear : ByteArray := prog_12_method_3_code
def yX10_clear : MethodName := ⟨RX10, "clear", "()V"⟩
abbrev cX10_start : ByteArray := prog_12_method_4_code
def yX10_start : MethodName := ⟨RX10, "start", "()V"⟩
abbrev cX10_isAtEnd : ByteArray := prog_12_method_5_code
def yX10_isAtEnd : MethodName := ⟨RX10, "isAtEnd", "()Z"⟩
abbrev cX10_skip : ByteArray := prog_12_method_6_code
def yX10_skip : MethodName := ⟨RX10, "skip", "(C)Z"⟩
abbrev cX10_number : ByteArray := prog_12_method_7_code
def yX10_number : MethodName := ⟨RX10, "number", "(I)I"⟩
abbrev cX10_isAtDigit : ByteArray := prog_12_method_8_code
def yX10_isAtDigit : MethodName := ⟨RX10, "isAtDigit", "()Z"⟩
abbrev cX10_end : ByteArray := prog_12_method_9_code
def yX10_end : MethodName := ⟨RX10, "end", "(Z)Z"⟩
def RX11 : String := "MouldFloor"
def TX11 : u_T := fun k => match k with
  | 0 => ("MouldFloor", "floor", "LMouldFloor$Floor;", true)
  | 1 => ("MouldFloor", "snapshot", "LMouldFloor$Floor;", true)
  | 2 => ("MouldFloor", "history", "LMouldFloor$History;", true)
  | 3 => ("MouldFloor", "reasons", "LMouldFloor$Reasons;", true)
  | 4 => ("MouldFloor", "text", "LMouldFloor$Text;", true)
  | 5 => ("MouldFloor", "familyText", "LMouldFloor$FamilyText;", true)
  | 6 => ("MouldFloor", "programText", "LMouldFloor$ProgramText;", true)
  | 7 => ("MouldFloor", "colourOrders", "LMouldFloor$ColourOrders;", true)
  | _ => ("MouldFloor", "isSaved", "Z", false)
def tyX11 : Nat → FieldType := fun k => match k with
  | 0 => .object "MouldFloor$Floor"
  | 1 => .object "MouldFloor$Floor"
  | 2 => .object "MouldFloor$History"
  | 3 => .object "MouldFloor$Reasons"
  | 4 => .object "MouldFloor$Text"
  | 5 => .object "MouldFloor$FamilyText"
  | 6 => .object "MouldFloor$ProgramText"
  | 7 => .object "MouldFloor$ColourOrders"
  | _ => .boolean
abbrev wsX110 : List Cond := u_ws RX11 TX11 9
theorem nmX11 : ∀ a, a < 9 → ∀ b, b < 9 → a ≠ b → (TX11 a).2.1 ≠ (TX11 b).2.1 := by decide +kernel
theorem tyX11_ok : ∀ k, k < 9 → parseFieldDescriptor (TX11 k).2.2.1 = some (tyX11 k) := by decide +kernel
abbrev cX11_init : ByteArray := prog_1_method_1_code
def yX11_init : MethodName := ⟨RX11, "<init>", "()V"⟩
abbrev cX11_append : ByteArray := prog_1_method_2_code
def yX11_append : MethodName := ⟨RX11, "append", "(C)I"⟩
abbrev cX11_colour : ByteArray := prog_1_method_3_code
def yX11_colour : MethodName := ⟨RX11, "colour", "(I)I"⟩
abbrev cX11_part : ByteArray := prog_1_method_4_code
def yX11_part : MethodName := ⟨RX11, "part", "(I)I"⟩
abbrev cX11_family : ByteArray := prog_1_method_5_code
def yX11_family : MethodName := ⟨RX11, "family", "()I"⟩
abbrev cX11_program : ByteArray := prog_1_method_6_code
def yX11_program : MethodName := ⟨RX11, "program", "()I"⟩
abbrev cX11_faultPosition : ByteArray := prog_1_method_7_code
def yX11_faultPosition : MethodName := ⟨RX11, "faultPosition", "()I"⟩
abbrev cX11_mount : ByteArray := prog_1_method_8_code
def yX11_mount : MethodName := ⟨RX11, "mount", "(I)I"⟩
abbrev cX11_load : ByteArray := prog_1_method_9_code
def yX11_load : MethodName := ⟨RX11, "load", "(III)I"⟩
abbrev cX11_empty : ByteArray := prog_1_method_10_code
def yX11_empty : MethodName := ⟨RX11, "empty", "(I)I"⟩
abbrev cX11_pause : ByteArray := prog_1_method_11_code
def yX11_pause : MethodName := ⟨RX11, "pause", "(I)I"⟩
abbrev cX11_run : ByteArray := prog_1_method_12_code
def yX11_run : MethodName := ⟨RX11, "run", "(II)I"⟩
abbrev cX11_order : ByteArray := prog_1_method_13_code
def yX11_order : MethodName := ⟨RX11, "order", "(IIII)I"⟩
abbrev cX11_callOff : ByteArray := prog_1_method_14_code
def yX11_callOff : MethodName := ⟨RX11, "callOff", "(I)I"⟩
abbrev cX11_set : ByteArray := prog_1_method_15_code
def yX11_set : MethodName := ⟨RX11, "set", "(II)I"⟩
abbrev cX11_purge : ByteArray := prog_1_method_16_code
def yX11_purge : MethodName := ⟨RX11, "purge", "(II)I"⟩
abbrev cX11_minutes : ByteArray := prog_1_method_17_code
def yX11_minutes : MethodName := ⟨RX11, "minutes", "(II)I"⟩
abbrev cX11_best : ByteArray := prog_1_method_18_code
def yX11_best : MethodName := ⟨RX11, "best", "(I)I"⟩
abbrev cX11_bestAgain : ByteArray := prog_1_method_19_code
def yX11_bestAgain : MethodName := ⟨RX11, "bestAgain", "(I)I"⟩
abbrev cX11_bestColour : ByteArray := prog_1_method_20_code
def yX11_bestColour : MethodName := ⟨RX11, "bestColour", "(II)I"⟩
abbrev cX11_familyOf : ByteArray := prog_1_method_21_code
def yX11_familyOf : MethodName := ⟨RX11, "familyOf", "(II)I"⟩
abbrev cX11_pieces : ByteArray := prog_1_method_22_code
def yX11_pieces : MethodName := ⟨RX11, "pieces", "(II)I"⟩
abbrev cX11_families : ByteArray := prog_1_method_23_code
def yX11_families : MethodName := ⟨RX11, "families", "(I)I"⟩
abbrev cX11_dryer : ByteArray := prog_1_method_24_code
def yX11_dryer : MethodName := ⟨RX11, "dryer", "(II)I"⟩
abbrev cX11_stock : ByteArray := prog_1_method_25_code
def yX11_stock : MethodName := ⟨RX11, "stock", "(III)I"⟩
abbrev cX11_made : ByteArray := prog_1_method_26_code
def yX11_made : MethodName := ⟨RX11, "made", "(II)I"⟩
abbrev cX11_orderOf : ByteArray := prog_1_method_27_code
def yX11_orderOf : MethodName := ⟨RX11, "orderOf", "(II)I"⟩
abbrev cX11_shots : ByteArray := prog_1_method_28_code
def yX11_shots : MethodName := ⟨RX11, "shots", "(I)I"⟩
abbrev cX11_letter : ByteArray := prog_1_method_29_code
def yX11_letter : MethodName := ⟨RX11, "letter", "(I)C"⟩
abbrev cX11_due : ByteArray := prog_1_method_30_code
def yX11_due : MethodName := ⟨RX11, "due", "(I)I"⟩
abbrev cX11_reason : ByteArray := prog_1_method_31_code
def yX11_reason : MethodName := ⟨RX11, "reason", "(IZ)I"⟩
abbrev cX11_scrap : ByteArray := prog_1_method_32_code
def yX11_scrap : MethodName := ⟨RX11, "scrap", "()F"⟩
abbrev cX11_lateness : ByteArray := prog_1_method_33_code
def yX11_lateness : MethodName := ⟨RX11, "lateness", "()D"⟩
abbrev cX11_account : ByteArray := prog_1_method_34_code
def yX11_account : MethodName := ⟨RX11, "account", "(I)I"⟩
abbrev cX11_undo : ByteArray := prog_1_method_35_code
def yX11_undo : MethodName := ⟨RX11, "undo", "()I"⟩
abbrev cX11_save : ByteArray := prog_1_method_36_code
def yX11_save : MethodName := ⟨RX11, "save", "()I"⟩
abbrev cX11_restore : ByteArray := prog_1_method_37_code
def yX11_restore : MethodName := ⟨RX11, "restore", "()I"⟩
abbrev cX11_settled : ByteArray := prog_1_method_38_code
def yX11_settled : MethodName := ⟨RX11, "settled", "(I)I"⟩
abbrev cX11_commandCarriedOut : ByteArray := prog_1_method_39_code
def yX11_commandCarriedOut : MethodName := ⟨RX11, "commandCarriedOut", "(I)I"⟩
abbrev cX11_checkColours : ByteArray := prog_1_method_40_code
def yX11_checkColours : MethodName := ⟨RX11, "checkColours", "(I)V"⟩
abbrev cX11_checkOrder : ByteArray := prog_1_method_41_code
def yX11_checkOrder : MethodName := ⟨RX11, "checkOrder", "(I)V"⟩
abbrev cX11_isWithin : ByteArray := prog_1_method_42_code
def yX11_isWithin : MethodName := ⟨RX11, "isWithin", "(III)Z"⟩
abbrev cX11_copyRow : ByteArray := prog_1_method_43_code
def yX11_copyRow : MethodName := ⟨RX11, "copyRow", "([I[I)V"⟩
def RX12 : String := "MouldFloorModel"
def TX12 : u_T := fun k => match k with
  | 0 => ("MouldFloorModel", "now", "[I", true)
  | 1 => ("MouldFloorModel", "tried", "[I", true)
  | 2 => ("MouldFloorModel", "kept", "[I", true)
  | 3 => ("MouldFloorModel", "undos", "I", false)
  | 4 => ("MouldFloorModel", "saved", "[I", true)
  | 5 => ("MouldFloorModel", "isSaved", "Z", false)
  | 6 => ("MouldFloorModel", "text", "[C", true)
  | 7 => ("MouldFloorModel", "length", "I", false)
  | 8 => ("MouldFloorModel", "at", "I", false)
  | 9 => ("MouldFloorModel", "fault", "I", false)
  | 10 => ("MouldFloorModel", "reasons", "I", false)
  | 11 => ("MouldFloorModel", "why", "[I", true)
  | 12 => ("MouldFloorModel", "more", "[I", true)
  | 13 => ("MouldFloorModel", "answer", "I", false)
  | 14 => ("MouldFloorModel", "told", "[I", true)
  | 15 => ("MouldFloorModel", "bestSum", "I", false)
  | 16 => ("MouldFloorModel", "bestRow", "[I", true)
  | 17 => ("MouldFloorModel", "row", "[I", true)
  | _ => ("MouldFloorModel", "thrown", "I", false)
def tyX12 : Nat → FieldType := fun k => match k with
  | 0 => .array .int
  | 1 => .array .int
  | 2 => .array .int
  | 3 => .int
  | 4 => .array .int
  | 5 => .boolean
  | 6 => .array .char
  | 7 => .int
  | 8 => .int
  | 9 => .int
  | 10 => .int
  | 11 => .array .int
  | 12 => .array .int
  | 13 => .int
  | 14 => .array .int
  | 15 => .int
  | 16 => .array .int
  | 17 => .array .int
  | _ => .int
abbrev wsX120 : List Cond := u_ws RX12 TX12 19
theorem nmX12 : ∀ a, a < 19 → ∀ b, b < 19 → a ≠ b → (TX12 a).2.1 ≠ (TX12 b).2.1 := by decide +kernel
theorem tyX12_ok : ∀ k, k < 19 → parseFieldDescriptor (TX12 k).2.2.1 = some (tyX12 k) := by decide +kernel
abbrev cX12_init : ByteArray := prog_14_method_1_code
def yX12_init : MethodName := ⟨RX12, "<init>", "()V"⟩
abbrev cX12_thrown : ByteArray := prog_14_method_2_code
def yX12_thrown : MethodName := ⟨RX12, "thrown", "()I"⟩
abbrev cX12_raises : ByteArray := prog_14_method_3_code
def yX12_raises : MethodName := ⟨RX12, "raises", "(I)I"⟩
abbrev cX12_in : ByteArray := prog_14_method_4_code
def yX12_in : MethodName := ⟨RX12, "in", "(III)Z"⟩
abbrev cX12_tries : ByteArray := prog_14_method_5_code
def yX12_tries : MethodName := ⟨RX12, "tries", "()V"⟩
abbrev cX12_comesBack : ByteArray := prog_14_method_6_code
def yX12_comesBack : MethodName := ⟨RX12, "comesBack", "()V"⟩
abbrev cX12_keeps : ByteArray := prog_14_method_7_code
def yX12_keeps : MethodName := ⟨RX12, "keeps", "()V"⟩
abbrev cX12_refuses : ByteArray := prog_14_method_8_code
def yX12_refuses : MethodName := ⟨RX12, "refuses", "(II)Z"⟩
abbrev cX12_behind : ByteArray := prog_14_method_9_code
def yX12_behind : MethodName := ⟨RX12, "behind", "(II)V"⟩
abbrev cX12_ends : ByteArray := prog_14_method_10_code
def yX12_ends : MethodName := ⟨RX12, "ends", "(Z)I"⟩
abbrev cX12_is : ByteArray := prog_14_method_11_code
def yX12_is : MethodName := ⟨RX12, "is", "(I)Z"⟩
abbrev cX12_isColour : ByteArray := prog_14_method_12_code
def yX12_isColour : MethodName := ⟨RX12, "isColour", "(I)Z"⟩
abbrev cX12_isPart : ByteArray := prog_14_method_13_code
def yX12_isPart : MethodName := ⟨RX12, "isPart", "(I)Z"⟩
abbrev cX12_isFamily : ByteArray := prog_14_method_14_code
def yX12_isFamily : MethodName := ⟨RX12, "isFamily", "(I)Z"⟩
abbrev cX12_isDryer : ByteArray := prog_14_method_15_code
def yX12_isDryer : MethodName := ⟨RX12, "isDryer", "(I)Z"⟩
abbrev cX12_isOrder : ByteArray := prog_14_method_16_code
def yX12_isOrder : MethodName := ⟨RX12, "isOrder", "(I)Z"⟩
abbrev cX12_of : ByteArray := prog_14_method_17_code
def yX12_of : MethodName := ⟨RX12, "of", "(II)I"⟩
abbrev cX12_ordered : ByteArray := prog_14_method_18_code
def yX12_ordered : MethodName := ⟨RX12, "ordered", "(II)I"⟩
abbrev cX12_place : ByteArray := prog_14_method_19_code
def yX12_place : MethodName := ⟨RX12, "place", "(II)I"⟩
abbrev cX12_weekEnds : ByteArray := prog_14_method_20_code
def yX12_weekEnds : MethodName := ⟨RX12, "weekEnds", "()V"⟩
abbrev cX12_passes : ByteArray := prog_14_method_21_code
def yX12_passes : MethodName := ⟨RX12, "passes", "(I)I"⟩
abbrev cX12_doesColour : ByteArray := prog_14_method_22_code
def yX12_doesColour : MethodName := ⟨RX12, "doesColour", "(I)Z"⟩
abbrev cX12_doesPart : ByteArray := prog_14_method_23_code
def yX12_doesPart : MethodName := ⟨RX12, "doesPart", "(I)Z"⟩
abbrev cX12_doesFamily : ByteArray := prog_14_method_24_code
def yX12_doesFamily : MethodName := ⟨RX12, "doesFamily", "()Z"⟩
abbrev cX12_doesMount : ByteArray := prog_14_method_25_code
def yX12_doesMount : MethodName := ⟨RX12, "doesMount", "(I)Z"⟩
abbrev cX12_doesLoad : ByteArray := prog_14_method_26_code
def yX12_doesLoad : MethodName := ⟨RX12, "doesLoad", "(III)Z"⟩
abbrev cX12_becomesEmpty : ByteArray := prog_14_method_27_code
def yX12_becomesEmpty : MethodName := ⟨RX12, "becomesEmpty", "(I)V"⟩
abbrev cX12_doesEmpty : ByteArray := prog_14_method_28_code
def yX12_doesEmpty : MethodName := ⟨RX12, "doesEmpty", "(I)Z"⟩
abbrev cX12_doesPause : ByteArray := prog_14_method_29_code
def yX12_doesPause : MethodName := ⟨RX12, "doesPause", "(I)Z"⟩
abbrev cX12_purgeOf : ByteArray := prog_14_method_30_code
def yX12_purgeOf : MethodName := ⟨RX12, "purgeOf", "(II)I"⟩
abbrev cX12_doesRun : ByteArray := prog_14_method_31_code
def yX12_doesRun : MethodName := ⟨RX12, "doesRun", "(II)Z"⟩
abbrev cX12_doesOrder : ByteArray := prog_14_method_32_code
def yX12_doesOrder : MethodName := ⟨RX12, "doesOrder", "(IIII)Z"⟩
abbrev cX12_opens : ByteArray := prog_14_method_33_code
def yX12_opens : MethodName := ⟨RX12, "opens", "()I"⟩
abbrev cX12_doesCallOff : ByteArray := prog_14_method_34_code
def yX12_doesCallOff : MethodName := ⟨RX12, "doesCallOff", "(I)Z"⟩
abbrev cX12_doesSet : ByteArray := prog_14_method_35_code
def yX12_doesSet : MethodName := ⟨RX12, "doesSet", "(II)Z"⟩
abbrev cX12_append : ByteArray := prog_14_method_36_code
def yX12_append : MethodName := ⟨RX12, "append", "(C)I"⟩
abbrev cX12_colour : ByteArray := prog_14_method_37_code
def yX12_colour : MethodName := ⟨RX12, "colour", "(I)I"⟩
abbrev cX12_part : ByteArray := prog_14_method_38_code
def yX12_part : MethodName := ⟨RX12, "part", "(I)I"⟩
abbrev cX12_mount : ByteArray := prog_14_method_39_code
def yX12_mount : MethodName := ⟨RX12, "mount", "(I)I"⟩
abbrev cX12_load : ByteArray := prog_14_method_40_code
def yX12_load : MethodName := ⟨RX12, "load", "(III)I"⟩
abbrev cX12_empty : ByteArray := prog_14_method_41_code
def yX12_empty : MethodName := ⟨RX12, "empty", "(I)I"⟩
abbrev cX12_pause : ByteArray := prog_14_method_42_code
def yX12_pause : MethodName := ⟨RX12, "pause", "(I)I"⟩
abbrev cX12_run : ByteArray := prog_14_method_43_code
def yX12_run : MethodName := ⟨RX12, "run", "(II)I"⟩
abbrev cX12_order : ByteArray := prog_14_method_44_code
def yX12_order : MethodName := ⟨RX12, "order", "(IIII)I"⟩
abbrev cX12_callOff : ByteArray := prog_14_method_45_code
def yX12_callOff : MethodName := ⟨RX12, "callOff", "(I)I"⟩
abbrev cX12_set : ByteArray := prog_14_method_46_code
def yX12_set : MethodName := ⟨RX12, "set", "(II)I"⟩
abbrev cX12_takes : ByteArray := prog_14_method_47_code
def yX12_takes : MethodName := ⟨RX12, "takes", "(C)Z"⟩
abbrev cX12_number : ByteArray := prog_14_method_48_code
def yX12_number : MethodName := ⟨RX12, "number", "(II)Z"⟩
abbrev cX12_isFamilyText : ByteArray := prog_14_method_49_code
def yX12_isFamilyText : MethodName := ⟨RX12, "isFamilyText", "()Z"⟩
abbrev cX12_isCommand : ByteArray := prog_14_method_50_code
def yX12_isCommand : MethodName := ⟨RX12, "isCommand", "(I)Z"⟩
abbrev cX12_does : ByteArray := prog_14_method_51_code
def yX12_does : MethodName := ⟨RX12, "does", "(I)Z"⟩
abbrev cX12_family : ByteArray := prog_14_method_52_code
def yX12_family : MethodName := ⟨RX12, "family", "()I"⟩
abbrev cX12_program : ByteArray := prog_14_method_53_code
def yX12_program : MethodName := ⟨RX12, "program", "()I"⟩
abbrev cX12_faultPosition : ByteArray := prog_14_method_54_code
def yX12_faultPosition : MethodName := ⟨RX12, "faultPosition", "()I"⟩
abbrev cX12_purge : ByteArray := prog_14_method_55_code
def yX12_purge : MethodName := ⟨RX12, "purge", "(II)I"⟩
abbrev cX12_minutes : ByteArray := prog_14_method_56_code
def yX12_minutes : MethodName := ⟨RX12, "minutes", "(II)I"⟩
abbrev cX12_orders : ByteArray := prog_14_method_57_code
def yX12_orders : MethodName := ⟨RX12, "orders", "(III)V"⟩
abbrev cX12_isSet : ByteArray := prog_14_method_58_code
def yX12_isSet : MethodName := ⟨RX12, "isSet", "(I)Z"⟩
abbrev cX12_best : ByteArray := prog_14_method_59_code
def yX12_best : MethodName := ⟨RX12, "best", "(I)I"⟩
abbrev cX12_bestAgain : ByteArray := prog_14_method_60_code
def yX12_bestAgain : MethodName := ⟨RX12, "bestAgain", "(I)I"⟩
abbrev cX12_bestColour : ByteArray := prog_14_method_61_code
def yX12_bestColour : MethodName := ⟨RX12, "bestColour", "(II)I"⟩
abbrev cX12_piecesOf : ByteArray := prog_14_method_62_code
def yX12_piecesOf : MethodName := ⟨RX12, "piecesOf", "(II)I"⟩
abbrev cX12_familyOf : ByteArray := prog_14_method_63_code
def yX12_familyOf : MethodName := ⟨RX12, "familyOf", "(II)I"⟩
abbrev cX12_pieces : ByteArray := prog_14_method_64_code
def yX12_pieces : MethodName := ⟨RX12, "pieces", "(II)I"⟩
abbrev cX12_families : ByteArray := prog_14_method_65_code
def yX12_families : MethodName := ⟨RX12, "families", "(I)I"⟩
abbrev cX12_dryer : ByteArray := prog_14_method_66_code
def yX12_dryer : MethodName := ⟨RX12, "dryer", "(II)I"⟩
abbrev cX12_stock : ByteArray := prog_14_method_67_code
def yX12_stock : MethodName := ⟨RX12, "stock", "(III)I"⟩
abbrev cX12_made : ByteArray := prog_14_method_68_code
def yX12_made : MethodName := ⟨RX12, "made", "(II)I"⟩
abbrev cX12_orderOf : ByteArray := prog_14_method_69_code
def yX12_orderOf : MethodName := ⟨RX12, "orderOf", "(II)I"⟩
abbrev cX12_shots : ByteArray := prog_14_method_70_code
def yX12_shots : MethodName := ⟨RX12, "shots", "(I)I"⟩
abbrev cX12_letter : ByteArray := prog_14_method_71_code
def yX12_letter : MethodName := ⟨RX12, "letter", "(I)C"⟩
abbrev cX12_due : ByteArray := prog_14_method_72_code
def yX12_due : MethodName := ⟨RX12, "due", "(I)I"⟩
abbrev cX12_reason : ByteArray := prog_14_method_73_code
def yX12_reason : MethodName := ⟨RX12, "reason", "(IZ)I"⟩
abbrev cX12_scrap : ByteArray := prog_14_method_74_code
def yX12_scrap : MethodName := ⟨RX12, "scrap", "()F"⟩
abbrev cX12_lateness : ByteArray := prog_14_method_75_code
def yX12_lateness : MethodName := ⟨RX12, "lateness", "()D"⟩
abbrev cX12_account : ByteArray := prog_14_method_76_code
def yX12_account : MethodName := ⟨RX12, "account", "(I)I"⟩
abbrev cX12_undo : ByteArray := prog_14_method_77_code
def yX12_undo : MethodName := ⟨RX12, "undo", "()I"⟩
abbrev cX12_save : ByteArray := prog_14_method_78_code
def yX12_save : MethodName := ⟨RX12, "save", "()I"⟩
abbrev cX12_restore : ByteArray := prog_14_method_79_code
def yX12_restore : MethodName := ⟨RX12, "restore", "()I"⟩
def RJx145de : String := "java/io/Serializable"
def TJx145de : u_T := fun k => match k with
  | _ => ("", "", "", false)
def tyJx145de : Nat → FieldType := fun k => match k with
  | _ => .int
abbrev wsJx145de0 : List Cond := u_ws RJx145de TJx145de 0
theorem nmJx145de : ∀ a, a < 0 → ∀ b, b < 0 → a ≠ b → (TJx145de a).2.1 ≠ (TJx145de b).2.1 := by decide +kernel
theorem tyJx145de_ok : ∀ k, k < 0 → parseFieldDescriptor (TJx145de k).2.2.1 = some (tyJx145de k) := by decide +kernel
def RJx00060 : String := "java/lang/ArrayIndexOutOfBoundsException"
def TJx00060 : u_T := fun k => match k with
  | 0 => ("java/lang/Throwable", "backtrace", "Ljava/lang/Object;", false)
  | 1 => ("java/lang/Throwable", "detailMessage", "Ljava/lang/String;", false)
  | 2 => ("java/lang/Throwable", "cause", "Ljava/lang/Throwable;", false)
  | 3 => ("java/lang/Throwable", "stackTrace", "[Ljava/lang/StackTraceElement;", false)
  | 4 => ("java/lang/Throwable", "depth", "I", false)
  | _ => ("java/lang/Throwable", "suppressedExceptions", "Ljava/util/List;", false)
def tyJx00060 : Nat → FieldType := fun k => match k with
  | 0 => .object "java/lang/Object"
  | 1 => .object "java/lang/String"
  | 2 => .object "java/lang/Throwable"
  | 3 => .array (.object "java/lang/StackTraceElement")
  | 4 => .int
  | _ => .object "java/util/List"
abbrev wsJx000600 : List Cond := u_ws RJx00060 TJx00060 6
theorem nmJx00060 : ∀ a, a < 6 → ∀ b, b < 6 → a ≠ b → (TJx00060 a).2.1 ≠ (TJx00060 b).2.1 := by decide +kernel
theorem tyJx00060_ok : ∀ k, k < 6 → parseFieldDescriptor (TJx00060 k).2.2.1 = some (tyJx00060 k) := by decide +kernel
abbrev cJx00060_init_a7421 : ByteArray := prog_17_method_2_code
def yJx00060_init_a7421 : MethodName := ⟨RJx00060, "<init>", "(Ljava/lang/String;)V"⟩
def RJ6 : String := "java/lang/Integer"
def TJ6 : u_T := fun k => match k with
  | _ => ("", "", "", false)
def tyJ6 : Nat → FieldType := fun k => match k with
  | _ => .int
abbrev wsJ60 : List Cond := u_ws RJ6 TJ6 0
theorem nmJ6 : ∀ a, a < 0 → ∀ b, b < 0 → a ≠ b → (TJ6 a).2.1 ≠ (TJ6 b).2.1 := by decide +kernel
theorem tyJ6_ok : ∀ k, k < 0 → parseFieldDescriptor (TJ6 k).2.2.1 = some (tyJ6 k) := by decide +kernel
abbrev cJ6_bitCount_0f7a4 : ByteArray := prog_22_method_49_code
def yJ6_bitCount_0f7a4 : MethodName := ⟨RJ6, "bitCount", "(I)I"⟩
def RJ9 : String := "java/lang/Math"
def TJ9 : u_T := fun k => match k with
  | _ => ("", "", "", false)
def tyJ9 : Nat → FieldType := fun k => match k with
  | _ => .int
abbrev wsJ90 : List Cond := u_ws RJ9 TJ9 0
theorem nmJ9 : ∀ a, a < 0 → ∀ b, b < 0 → a ≠ b → (TJ9 a).2.1 ≠ (TJ9 b).2.1 := by decide +kernel
theorem tyJ9_ok : ∀ k, k < 0 → parseFieldDescriptor (TJ9 k).2.2.1 = some (tyJ9 k) := by decide +kernel
abbrev cJ9_max_7cf53 : ByteArray := prog_23_method_65_code
def yJ9_max_7cf53 : MethodName := ⟨RJ9, "max", "(II)I"⟩
abbrev cJ9_min_7cf53 : ByteArray := prog_23_method_69_code
def yJ9_min_7cf53 : MethodName := ⟨RJ9, "min", "(II)I"⟩
def RJ0 : String := "java/lang/String"
def TJ0 : u_T := fun k => match k with
  | 0 => ("java/lang/String", "value", "[B", true)
  | _ => ("java/lang/String", "coder", "B", true)
def tyJ0 : Nat → FieldType := fun k => match k with
  | 0 => .array .byte
  | _ => .byte
abbrev wsJ00 : List Cond := u_ws RJ0 TJ0 2
theorem nmJ0 : ∀ a, a < 2 → ∀ b, b < 2 → a ≠ b → (TJ0 a).2.1 ≠ (TJ0 b).2.1 := by decide +kernel
theorem tyJ0_ok : ∀ k, k < 2 → parseFieldDescriptor (TJ0 k).2.2.1 = some (tyJ0 k) := by decide +kernel
def RJ10 : String := "java/lang/System"
def TJ10 : u_T := fun k => match k with
  | _ => ("", "", "", false)
def tyJ10 : Nat → FieldType := fun k => match k with
  | _ => .int
abbrev wsJ100 : List Cond := u_ws RJ10 TJ10 0
theorem nmJ10 : ∀ a, a < 0 → ∀ b, b < 0 → a ≠ b → (TJ10 a).2.1 ≠ (TJ10 b).2.1 := by decide +kernel
theorem tyJ10_ok : ∀ k, k < 0 → parseFieldDescriptor (TJ10 k).2.2.1 = some (tyJ10 k) := by decide +kernel
def RL : String := "MouldFloorLaw"
abbrev cL_append : ByteArray := method_3_code
def yL_append : MethodName := ⟨RL, "append", "(LMouldFloor;C[J)I"⟩
abbrev cL_colour : ByteArray := method_4_code
def yL_colour : MethodName := ⟨RL, "colour", "(LMouldFloor;I[J)I"⟩
abbrev cL_part : ByteArray := method_5_code
def yL_part : MethodName := ⟨RL, "part", "(LMouldFloor;I[J)I"⟩
abbrev cL_family : ByteArray := method_6_code
def yL_family : MethodName := ⟨RL, "family", "(LMouldFloor;[J)I"⟩
abbrev cL_program : ByteArray := method_7_code
def yL_program : MethodName := ⟨RL, "program", "(LMouldFloor;[J)I"⟩
abbrev cL_mount : ByteArray := method_8_code
def yL_mount : MethodName := ⟨RL, "mount", "(LMouldFloor;I[J)I"⟩
abbrev cL_load : ByteArray := method_9_code
def yL_load : MethodName := ⟨RL, "load", "(LMouldFloor;III[J)I"⟩
abbrev cL_empty : ByteArray := method_10_code
def yL_empty : MethodName := ⟨RL, "empty", "(LMouldFloor;I[J)I"⟩
abbrev cL_pause : ByteArray := method_11_code
def yL_pause : MethodName := ⟨RL, "pause", "(LMouldFloor;I[J)I"⟩
abbrev cL_run : ByteArray := method_12_code
def yL_run : MethodName := ⟨RL, "run", "(LMouldFloor;II[J)I"⟩
abbrev cL_order : ByteArray := method_13_code
def yL_order : MethodName := ⟨RL, "order", "(LMouldFloor;IIII[J)I"⟩
abbrev cL_callOff : ByteArray := method_14_code
def yL_callOff : MethodName := ⟨RL, "callOff", "(LMouldFloor;I[J)I"⟩
abbrev cL_set : ByteArray := method_15_code
def yL_set : MethodName := ⟨RL, "set", "(LMouldFloor;II[J)I"⟩
abbrev cL_purge : ByteArray := method_16_code
def yL_purge : MethodName := ⟨RL, "purge", "(LMouldFloor;II[J)I"⟩
abbrev cL_minutes : ByteArray := method_17_code
def yL_minutes : MethodName := ⟨RL, "minutes", "(LMouldFloor;II[J)I"⟩
abbrev cL_best : ByteArray := method_18_code
def yL_best : MethodName := ⟨RL, "best", "(LMouldFloor;I[J)I"⟩
abbrev cL_bestAgain : ByteArray := method_19_code
def yL_bestAgain : MethodName := ⟨RL, "bestAgain", "(LMouldFloor;I[J)I"⟩
abbrev cL_bestColour : ByteArray := method_20_code
def yL_bestColour : MethodName := ⟨RL, "bestColour", "(LMouldFloor;II[J)I"⟩
abbrev cL_familyOf : ByteArray := method_21_code
def yL_familyOf : MethodName := ⟨RL, "familyOf", "(LMouldFloor;II[J)I"⟩
abbrev cL_pieces : ByteArray := method_22_code
def yL_pieces : MethodName := ⟨RL, "pieces", "(LMouldFloor;II[J)I"⟩
abbrev cL_families : ByteArray := method_23_code
def yL_families : MethodName := ⟨RL, "families", "(LMouldFloor;I[J)I"⟩
abbrev cL_dryer : ByteArray := method_24_code
def yL_dryer : MethodName := ⟨RL, "dryer", "(LMouldFloor;II[J)I"⟩
abbrev cL_stock : ByteArray := method_25_code
def yL_stock : MethodName := ⟨RL, "stock", "(LMouldFloor;III[J)I"⟩
abbrev cL_made : ByteArray := method_26_code
def yL_made : MethodName := ⟨RL, "made", "(LMouldFloor;II[J)I"⟩
abbrev cL_orderOf : ByteArray := method_27_code
def yL_orderOf : MethodName := ⟨RL, "orderOf", "(LMouldFloor;II[J)I"⟩
abbrev cL_shots : ByteArray := method_28_code
def yL_shots : MethodName := ⟨RL, "shots", "(LMouldFloor;I[J)I"⟩
abbrev cL_letter : ByteArray := method_29_code
def yL_letter : MethodName := ⟨RL, "letter", "(LMouldFloor;I[J)I"⟩
abbrev cL_due : ByteArray := method_30_code
def yL_due : MethodName := ⟨RL, "due", "(LMouldFloor;I[J)I"⟩
abbrev cL_reason : ByteArray := method_31_code
def yL_reason : MethodName := ⟨RL, "reason", "(LMouldFloor;IZ[J)I"⟩
abbrev cL_scrap : ByteArray := method_32_code
def yL_scrap : MethodName := ⟨RL, "scrap", "(LMouldFloor;[D)I"⟩
abbrev cL_lateness : ByteArray := method_33_code
def yL_lateness : MethodName := ⟨RL, "lateness", "(LMouldFloor;[D)I"⟩
abbrev cL_account : ByteArray := method_34_code
def yL_account : MethodName := ⟨RL, "account", "(LMouldFloor;I[J)I"⟩
abbrev cL_undo : ByteArray := method_35_code
def yL_undo : MethodName := ⟨RL, "undo", "(LMouldFloor;[J)I"⟩
abbrev cL_restore : ByteArray := method_36_code
def yL_restore : MethodName := ⟨RL, "restore", "(LMouldFloor;[J)I"⟩
abbrev cL_law : ByteArray := code
def yL_law : MethodName := ⟨RL, "law", "([I)Z"⟩
abbrev vwCl : List vw_C := [(RJ0, TJ0, 2), (RJx00060, TJx00060, 6), (RX0, TX0, 9), (RX1, TX1, 2), (RX2, TX2, 3), (RX3, TX3, 5), (RX4, TX4, 12), (RX5, TX5, 3), (RX6, TX6, 7), (RX7, TX7, 3), (RX8, TX8, 3), (RX9, TX9, 5), (RX10, TX10, 4), (RX11, TX11, 9), (RX12, TX12, 19)]
end
section
theorem dX0_init_0 : decode cX0_init 0 = .ok (.aload_n 0, 1) := by decide +kernel
theorem dX0_init_1 : decode cX0_init 1 = .ok (.invokespecial 3, 3) := by decide +kernel
theorem dX0_init_4 : decode cX0_init 4 = .ok (.aload_n 0, 1) := by decide +kernel
theorem dX0_init_5 : decode cX0_init 5 = .ok (.bipush 6, 2) := by decide +kernel
theorem dX0_init_7 : decode cX0_init 7 = .ok (.newarray .int, 2) := by decide +kernel
theorem dX0_init_9 : decode cX0_init 9 = .ok (.putfield 9, 3) := by decide +kernel
theorem dX0_init_12 : decode cX0_init 12 = .ok (.aload_n 0, 1) := by decide +kernel
theorem dX0_init_13 : decode cX0_init 13 = .ok (.bipush 8, 2) := by decide +kernel
theorem dX0_init_15 : decode cX0_init 15 = .ok (.newarray .int, 2) := by decide +kernel
theorem dX0_init_17 : decode cX0_init 17 = .ok (.putfield 15, 3) := by decide +kernel
theorem dX0_init_20 : decode cX0_init 20 = .ok (.aload_n 0, 1) := by decide +kernel
theorem dX0_init_21 : decode cX0_init 21 = .ok (.bipush 6, 2) := by decide +kernel
theorem dX0_init_23 : decode cX0_init 23 = .ok (.newarray .int, 2) := by decide +kernel
theorem dX0_init_25 : decode cX0_init 25 = .ok (.putfield 18, 3) := by decide +kernel
theorem dX0_init_28 : decode cX0_init 28 = .ok (.aload_n 0, 1) := by decide +kernel
theorem dX0_init_29 : decode cX0_init 29 = .ok (.bipush 6, 2) := by decide +kernel
theorem dX0_init_31 : decode cX0_init 31 = .ok (.newarray .int, 2) := by decide +kernel
theorem dX0_init_33 : decode cX0_init 33 = .ok (.putfield 21, 3) := by decide +kernel
theorem dX0_init_36 : decode cX0_init 36 = .ok (.aload_n 0, 1) := by decide +kernel
theorem dX0_init_37 : decode cX0_init 37 = .ok (.bipush 48, 2) := by decide +kernel
theorem dX0_init_39 : decode cX0_init 39 = .ok (.newarray .int, 2) := by decide +kernel
theorem dX0_init_41 : decode cX0_init 41 = .ok (.putfield 24, 3) := by decide +kernel
theorem dX0_init_44 : decode cX0_init 44 = .ok (.aload_n 0, 1) := by decide +kernel
theorem dX0_init_45 : decode cX0_init 45 = .ok (.iconst 4, 1) := by decide +kernel
theorem dX0_init_46 : decode cX0_init 46 = .ok (.newarray .int, 2) := by decide +kernel
theorem dX0_init_48 : decode cX0_init 48 = .ok (.putfield 27, 3) := by decide +kernel
theorem dX0_init_51 : decode cX0_init 51 = .ok (.getstatic 30, 3) := by decide +kernel
theorem dX0_init_54 : decode cX0_init 54 = .ok (.aload_n 0, 1) := by decide +kernel
theorem dX0_init_55 : decode cX0_init 55 = .ok (.getfield 27, 3) := by decide +kernel
theorem dX0_init_58 : decode cX0_init 58 = .ok (.invokestatic 33, 3) := by decide +kernel
theorem dX0_init_61 : decode cX0_init 61 = .ok (.return_, 1) := by decide +kernel
theorem dX0_copyFrom_0 : decode cX0_copyFrom 0 = .ok (.aload_n 0, 1) := by decide +kernel
theorem dX0_copyFrom_1 : decode cX0_copyFrom 1 = .ok (.aload_n 1, 1) := by decide +kernel
theorem dX0_copyFrom_2 : decode cX0_copyFrom 2 = .ok (.getfield 37, 3) := by decide +kernel
theorem dX0_copyFrom_5 : decode cX0_copyFrom 5 = .ok (.putfield 37, 3) := by decide +kernel
theorem dX0_copyFrom_8 : decode cX0_copyFrom 8 = .ok (.aload_n 0, 1) := by decide +kernel
theorem dX0_copyFrom_9 : decode cX0_copyFrom 9 = .ok (.aload_n 1, 1) := by decide +kernel
theorem dX0_copyFrom_10 : decode cX0_copyFrom 10 = .ok (.getfield 41, 3) := by decide +kernel
theorem dX0_copyFrom_13 : decode cX0_copyFrom 13 = .ok (.putfield 41, 3) := by decide +kernel
theorem dX0_copyFrom_16 : decode cX0_copyFrom 16 = .ok (.aload_n 0, 1) := by decide +kernel
theorem dX0_copyFrom_17 : decode cX0_copyFrom 17 = .ok (.aload_n 1, 1) := by decide +kernel
theorem dX0_copyFrom_18 : decode cX0_copyFrom 18 = .ok (.getfield 44, 3) := by decide +kernel
theorem dX0_copyFrom_21 : decode cX0_copyFrom 21 = .ok (.putfield 44, 3) := by decide +kernel
theorem dX0_copyFrom_24 : decode cX0_copyFrom 24 = .ok (.aload_n 1, 1) := by decide +kernel
theorem dX0_copyFrom_25 : decode cX0_copyFrom 25 = .ok (.getfield 9, 3) := by decide +kernel
theorem dX0_copyFrom_28 : decode cX0_copyFrom 28 = .ok (.aload_n 0, 1) := by decide +kernel
theorem dX0_copyFrom_29 : decode cX0_copyFrom 29 = .ok (.getfield 9, 3) := by decide +kernel
theorem dX0_copyFrom_32 : decode cX0_copyFrom 32 = .ok (.invokestatic 33, 3) := by decide +kernel
theorem dX0_copyFrom_35 : decode cX0_copyFrom 35 = .ok (.aload_n 1, 1) := by decide +kernel
theorem dX0_copyFrom_36 : decode cX0_copyFrom 36 = .ok (.getfield 15, 3) := by decide +kernel
theorem dX0_copyFrom_39 : decode cX0_copyFrom 39 = .ok (.aload_n 0, 1) := by decide +kernel
theorem dX0_copyFrom_40 : decode cX0_copyFrom 40 = .ok (.getfield 15, 3) := by decide +kernel
theorem dX0_copyFrom_43 : decode cX0_copyFrom 43 = .ok (.invokestatic 33, 3) := by decide +kernel
theorem dX0_copyFrom_46 : decode cX0_copyFrom 46 = .ok (.aload_n 1, 1) := by decide +kernel
theorem dX0_copyFrom_47 : decode cX0_copyFrom 47 = .ok (.getfield 18, 3) := by decide +kernel
theorem dX0_copyFrom_50 : decode cX0_copyFrom 50 = .ok (.aload_n 0, 1) := by decide +kernel
theorem dX0_copyFrom_51 : decode cX0_copyFrom 51 = .ok (.getfield 18, 3) := by decide +kernel
theorem dX0_copyFrom_54 : decode cX0_copyFrom 54 = .ok (.invokestatic 33, 3) := by decide +kernel
theorem dX0_copyFrom_57 : decode cX0_copyFrom 57 = .ok (.aload_n 1, 1) := by decide +kernel
theorem dX0_copyFrom_58 : decode cX0_copyFrom 58 = .ok (.getfield 21, 3) := by decide +kernel
theorem dX0_copyFrom_61 : decode cX0_copyFrom 61 = .ok (.aload_n 0, 1) := by decide +kernel
theorem dX0_copyFrom_62 : decode cX0_copyFrom 62 = .ok (.getfield 21, 3) := by decide +kernel
theorem dX0_copyFrom_65 : decode cX0_copyFrom 65 = .ok (.invokestatic 33, 3) := by decide +kernel
theorem dX0_copyFrom_68 : decode cX0_copyFrom 68 = .ok (.aload_n 1, 1) := by decide +kernel
theorem dX0_copyFrom_69 : decode cX0_copyFrom 69 = .ok (.getfield 24, 3) := by decide +kernel
theorem dX0_copyFrom_72 : decode cX0_copyFrom 72 = .ok (.aload_n 0, 1) := by decide +kernel
theorem dX0_copyFrom_73 : decode cX0_copyFrom 73 = .ok (.getfield 24, 3) := by decide +kernel
theorem dX0_copyFrom_76 : decode cX0_copyFrom 76 = .ok (.invokestatic 33, 3) := by decide +kernel
theorem dX0_copyFrom_79 : decode cX0_copyFrom 79 = .ok (.aload_n 1, 1) := by decide +kernel
theorem dX0_copyFrom_80 : decode cX0_copyFrom 80 = .ok (.getfield 27, 3) := by decide +kernel
theorem dX0_copyFrom_83 : decode cX0_copyFrom 83 = .ok (.aload_n 0, 1) := by decide +kernel
theorem dX0_copyFrom_84 : decode cX0_copyFrom 84 = .ok (.getfield 27, 3) := by decide +kernel
theorem dX0_copyFrom_87 : decode cX0_copyFrom 87 = .ok (.invokestatic 33, 3) := by decide +kernel
theorem dX0_copyFrom_90 : decode cX0_copyFrom 90 = .ok (.return_, 1) := by decide +kernel
theorem dX0_isColour_0 : decode cX0_isColour 0 = .ok (.iload_n 1, 1) := by decide +kernel
theorem dX0_isColour_1 : decode cX0_isColour 1 = .ok (.iconst 0, 1) := by decide +kernel
theorem dX0_isColour_2 : decode cX0_isColour 2 = .ok (.aload_n 0, 1) := by decide +kernel
theorem dX0_isColour_3 : decode cX0_isColour 3 = .ok (.getfield 37, 3) := by decide +kernel
theorem dX0_isColour_6 : decode cX0_isColour 6 = .ok (.iconst 1, 1) := by decide +kernel
theorem dX0_isColour_7 : decode cX0_isColour 7 = .ok (.isub, 1) := by decide +kernel
theorem dX0_isColour_8 : decode cX0_isColour 8 = .ok (.invokestatic 47, 3) := by decide +kernel
theorem dX0_isColour_11 : decode cX0_isColour 11 = .ok (.ireturn, 1) := by decide +kernel
theorem dX0_isPart_0 : decode cX0_isPart 0 = .ok (.iload_n 1, 1) := by decide +kernel
theorem dX0_isPart_1 : decode cX0_isPart 1 = .ok (.iconst 0, 1) := by decide +kernel
theorem dX0_isPart_2 : decode cX0_isPart 2 = .ok (.aload_n 0, 1) := by decide +kernel
theorem dX0_isPart_3 : decode cX0_isPart 3 = .ok (.getfield 41, 3) := by decide +kernel
theorem dX0_isPart_6 : decode cX0_isPart 6 = .ok (.iconst 1, 1) := by decide +kernel
theorem dX0_isPart_7 : decode cX0_isPart 7 = .ok (.isub, 1) := by decide +kernel
theorem dX0_isPart_8 : decode cX0_isPart 8 = .ok (.invokestatic 47, 3) := by decide +kernel
theorem dX0_isPart_11 : decode cX0_isPart 11 = .ok (.ireturn, 1) := by decide +kernel
theorem dX0_isFamily_0 : decode cX0_isFamily 0 = .ok (.iload_n 1, 1) := by decide +kernel
theorem dX0_isFamily_1 : decode cX0_isFamily 1 = .ok (.iconst 0, 1) := by decide +kernel
theorem dX0_isFamily_2 : decode cX0_isFamily 2 = .ok (.aload_n 0, 1) := by decide +kernel
theorem dX0_isFamily_3 : decode cX0_isFamily 3 = .ok (.getfield 44, 3) := by decide +kernel
theorem dX0_isFamily_6 : decode cX0_isFamily 6 = .ok (.iconst 1, 1) := by decide +kernel
theorem dX0_isFamily_7 : decode cX0_isFamily 7 = .ok (.isub, 1) := by decide +kernel
theorem dX0_isFamily_8 : decode cX0_isFamily 8 = .ok (.invokestatic 47, 3) := by decide +kernel
theorem dX0_isFamily_11 : decode cX0_isFamily 11 = .ok (.ireturn, 1) := by decide +kernel
theorem dX0_addColour_0 : decode cX0_addColour 0 = .ok (.iload_n 1, 1) := by decide +kernel
theorem dX0_addColour_1 : decode cX0_addColour 1 = .ok (.iconst 0, 1) := by decide +kernel
theorem dX0_addColour_2 : decode cX0_addColour 2 = .ok (.bipush 9, 2) := by decide +kernel
theorem dX0_addColour_4 : decode cX0_addColour 4 = .ok (.invokestatic 47, 3) := by decide +kernel
theorem dX0_addColour_7 : decode cX0_addColour 7 = .ok (.ifCond .ne 10, 3) := by decide +kernel
theorem dX0_addColour_10 : decode cX0_addColour 10 = .ok (.aload_n 2, 1) := by decide +kernel
theorem dX0_addColour_11 : decode cX0_addColour 11 = .ok (.iconst 2, 1) := by decide +kernel
theorem dX0_addColour_12 : decode cX0_addColour 12 = .ok (.iconst 0, 1) := by decide +kernel
theorem dX0_addColour_13 : decode cX0_addColour 13 = .ok (.invokevirtual 51, 3) := by decide +kernel
theorem dX0_addColour_16 : decode cX0_addColour 16 = .ok (.ireturn, 1) := by decide +kernel
theorem dX0_addColour_17 : decode cX0_addColour 17 = .ok (.aload_n 0, 1) := by decide +kernel
theorem dX0_addColour_18 : decode cX0_addColour 18 = .ok (.getfield 37, 3) := by decide +kernel
theorem dX0_addColour_21 : decode cX0_addColour 21 = .ok (.bipush 6, 2) := by decide +kernel
theorem dX0_addColour_23 : decode cX0_addColour 23 = .ok (.if_icmp .lt 10, 3) := by decide +kernel
theorem dX0_addColour_26 : decode cX0_addColour 26 = .ok (.aload_n 2, 1) := by decide +kernel
theorem dX0_addColour_27 : decode cX0_addColour 27 = .ok (.iconst 3, 1) := by decide +kernel
theorem dX0_addColour_28 : decode cX0_addColour 28 = .ok (.iconst 0, 1) := by decide +kernel
theorem dX0_addColour_29 : decode cX0_addColour 29 = .ok (.invokevirtual 51, 3) := by decide +kernel
theorem dX0_addColour_32 : decode cX0_addColour 32 = .ok (.ireturn, 1) := by decide +kernel
theorem dX0_addColour_33 : decode cX0_addColour 33 = .ok (.aload_n 0, 1) := by decide +kernel
theorem dX0_addColour_34 : decode cX0_addColour 34 = .ok (.getfield 9, 3) := by decide +kernel
theorem dX0_addColour_37 : decode cX0_addColour 37 = .ok (.aload_n 0, 1) := by decide +kernel
theorem dX0_addColour_38 : decode cX0_addColour 38 = .ok (.getfield 37, 3) := by decide +kernel
theorem dX0_addColour_41 : decode cX0_addColour 41 = .ok (.iload_n 1, 1) := by decide +kernel
theorem dX0_addColour_42 : decode cX0_addColour 42 = .ok (.iastore, 1) := by decide +kernel
theorem dX0_addColour_43 : decode cX0_addColour 43 = .ok (.aload_n 0, 1) := by decide +kernel
theorem dX0_addColour_44 : decode cX0_addColour 44 = .ok (.dup, 1) := by decide +kernel
theorem dX0_addColour_45 : decode cX0_addColour 45 = .ok (.getfield 37, 3) := by decide +kernel
theorem dX0_addColour_48 : decode cX0_addColour 48 = .ok (.iconst 1, 1) := by decide +kernel
theorem dX0_addColour_49 : decode cX0_addColour 49 = .ok (.iadd, 1) := by decide +kernel
theorem dX0_addColour_50 : decode cX0_addColour 50 = .ok (.putfield 37, 3) := by decide +kernel
theorem dX0_addColour_53 : decode cX0_addColour 53 = .ok (.aload_n 0, 1) := by decide +kernel
theorem dX0_addColour_54 : decode cX0_addColour 54 = .ok (.getfield 37, 3) := by decide +kernel
theorem dX0_addColour_57 : decode cX0_addColour 57 = .ok (.iconst 1, 1) := by decide +kernel
theorem dX0_addColour_58 : decode cX0_addColour 58 = .ok (.isub, 1) := by decide +kernel
theorem dX0_addColour_59 : decode cX0_addColour 59 = .ok (.ireturn, 1) := by decide +kernel
theorem dX0_addPart_0 : decode cX0_addPart 0 = .ok (.iload_n 1, 1) := by decide +kernel
theorem dX0_addPart_1 : decode cX0_addPart 1 = .ok (.iconst 1, 1) := by decide +kernel
theorem dX0_addPart_2 : decode cX0_addPart 2 = .ok (.bipush 50, 2) := by decide +kernel
theorem dX0_addPart_4 : decode cX0_addPart 4 = .ok (.invokestatic 47, 3) := by decide +kernel
theorem dX0_addPart_7 : decode cX0_addPart 7 = .ok (.ifCond .ne 10, 3) := by decide +kernel
theorem dX0_addPart_10 : decode cX0_addPart 10 = .ok (.aload_n 2, 1) := by decide +kernel
theorem dX0_addPart_11 : decode cX0_addPart 11 = .ok (.iconst 2, 1) := by decide +kernel
theorem dX0_addPart_12 : decode cX0_addPart 12 = .ok (.iconst 0, 1) := by decide +kernel
theorem dX0_addPart_13 : decode cX0_addPart 13 = .ok (.invokevirtual 51, 3) := by decide +kernel
theorem dX0_addPart_16 : decode cX0_addPart 16 = .ok (.ireturn, 1) := by decide +kernel
theorem dX0_addPart_17 : decode cX0_addPart 17 = .ok (.aload_n 0, 1) := by decide +kernel
theorem dX0_addPart_18 : decode cX0_addPart 18 = .ok (.getfield 41, 3) := by decide +kernel
theorem dX0_addPart_21 : decode cX0_addPart 21 = .ok (.bipush 8, 2) := by decide +kernel
theorem dX0_addPart_23 : decode cX0_addPart 23 = .ok (.if_icmp .lt 10, 3) := by decide +kernel
theorem dX0_addPart_26 : decode cX0_addPart 26 = .ok (.aload_n 2, 1) := by decide +kernel
theorem dX0_addPart_27 : decode cX0_addPart 27 = .ok (.iconst 3, 1) := by decide +kernel
theorem dX0_addPart_28 : decode cX0_addPart 28 = .ok (.iconst 0, 1) := by decide +kernel
theorem dX0_addPart_29 : decode cX0_addPart 29 = .ok (.invokevirtual 51, 3) := by decide +kernel
theorem dX0_addPart_32 : decode cX0_addPart 32 = .ok (.ireturn, 1) := by decide +kernel
theorem dX0_addPart_33 : decode cX0_addPart 33 = .ok (.aload_n 0, 1) := by decide +kernel
theorem dX0_addPart_34 : decode cX0_addPart 34 = .ok (.getfield 15, 3) := by decide +kernel
theorem dX0_addPart_37 : decode cX0_addPart 37 = .ok (.aload_n 0, 1) := by decide +kernel
theorem dX0_addPart_38 : decode cX0_addPart 38 = .ok (.getfield 41, 3) := by decide +kernel
theorem dX0_addPart_41 : decode cX0_addPart 41 = .ok (.iload_n 1, 1) := by decide +kernel
theorem dX0_addPart_42 : decode cX0_addPart 42 = .ok (.iastore, 1) := by decide +kernel
theorem dX0_addPart_43 : decode cX0_addPart 43 = .ok (.aload_n 0, 1) := by decide +kernel
theorem dX0_addPart_44 : decode cX0_addPart 44 = .ok (.dup, 1) := by decide +kernel
theorem dX0_addPart_45 : decode cX0_addPart 45 = .ok (.getfield 41, 3) := by decide +kernel
theorem dX0_addPart_48 : decode cX0_addPart 48 = .ok (.iconst 1, 1) := by decide +kernel
theorem dX0_addPart_49 : decode cX0_addPart 49 = .ok (.iadd, 1) := by decide +kernel
theorem dX0_addPart_50 : decode cX0_addPart 50 = .ok (.putfield 41, 3) := by decide +kernel
theorem dX0_addPart_53 : decode cX0_addPart 53 = .ok (.aload_n 0, 1) := by decide +kernel
theorem dX0_addPart_54 : decode cX0_addPart 54 = .ok (.getfield 41, 3) := by decide +kernel
theorem dX0_addPart_57 : decode cX0_addPart 57 = .ok (.iconst 1, 1) := by decide +kernel
theorem dX0_addPart_58 : decode cX0_addPart 58 = .ok (.isub, 1) := by decide +kernel
theorem dX0_addPart_59 : decode cX0_addPart 59 = .ok (.ireturn, 1) := by decide +kernel
theorem dX0_addFamily_0 : decode cX0_addFamily 0 = .ok (.aload_n 1, 1) := by decide +kernel
theorem dX0_addFamily_1 : decode cX0_addFamily 1 = .ok (.invokevirtual 57, 3) := by decide +kernel
theorem dX0_addFamily_4 : decode cX0_addFamily 4 = .ok (.ifCond .eq 10, 3) := by decide +kernel
theorem dX0_addFamily_7 : decode cX0_addFamily 7 = .ok (.aload_n 2, 1) := by decide +kernel
theorem dX0_addFamily_8 : decode cX0_addFamily 8 = .ok (.iconst 2, 1) := by decide +kernel
theorem dX0_addFamily_9 : decode cX0_addFamily 9 = .ok (.iconst 0, 1) := by decide +kernel
theorem dX0_addFamily_10 : decode cX0_addFamily 10 = .ok (.invokevirtual 51, 3) := by decide +kernel
theorem dX0_addFamily_13 : decode cX0_addFamily 13 = .ok (.ireturn, 1) := by decide +kernel
theorem dX0_addFamily_14 : decode cX0_addFamily 14 = .ok (.aload_n 0, 1) := by decide +kernel
theorem dX0_addFamily_15 : decode cX0_addFamily 15 = .ok (.aload_n 1, 1) := by decide +kernel
theorem dX0_addFamily_16 : decode cX0_addFamily 16 = .ok (.invokevirtual 63, 3) := by decide +kernel
theorem dX0_addFamily_19 : decode cX0_addFamily 19 = .ok (.invokevirtual 67, 3) := by decide +kernel
theorem dX0_addFamily_22 : decode cX0_addFamily 22 = .ok (.ifCond .ne 10, 3) := by decide +kernel
theorem dX0_addFamily_25 : decode cX0_addFamily 25 = .ok (.aload_n 2, 1) := by decide +kernel
theorem dX0_addFamily_26 : decode cX0_addFamily 26 = .ok (.iconst 1, 1) := by decide +kernel
theorem dX0_addFamily_27 : decode cX0_addFamily 27 = .ok (.iconst 0, 1) := by decide +kernel
theorem dX0_addFamily_28 : decode cX0_addFamily 28 = .ok (.invokevirtual 51, 3) := by decide +kernel
theorem dX0_addFamily_31 : decode cX0_addFamily 31 = .ok (.ireturn, 1) := by decide +kernel
theorem dX0_addFamily_32 : decode cX0_addFamily 32 = .ok (.aload_n 1, 1) := by decide +kernel
theorem dX0_addFamily_33 : decode cX0_addFamily 33 = .ok (.invokevirtual 71, 3) := by decide +kernel
theorem dX0_addFamily_36 : decode cX0_addFamily 36 = .ok (.istore_n 3, 1) := by decide +kernel
theorem dX0_addFamily_37 : decode cX0_addFamily 37 = .ok (.iload_n 3, 1) := by decide +kernel
theorem dX0_addFamily_38 : decode cX0_addFamily 38 = .ok (.iconst (-1), 1) := by decide +kernel
theorem dX0_addFamily_39 : decode cX0_addFamily 39 = .ok (.if_icmp .eq 11, 3) := by decide +kernel
theorem dX0_addFamily_42 : decode cX0_addFamily 42 = .ok (.aload_n 2, 1) := by decide +kernel
theorem dX0_addFamily_43 : decode cX0_addFamily 43 = .ok (.bipush 14, 2) := by decide +kernel
theorem dX0_addFamily_45 : decode cX0_addFamily 45 = .ok (.iload_n 3, 1) := by decide +kernel
theorem dX0_addFamily_46 : decode cX0_addFamily 46 = .ok (.invokevirtual 51, 3) := by decide +kernel
theorem dX0_addFamily_49 : decode cX0_addFamily 49 = .ok (.ireturn, 1) := by decide +kernel
theorem dX0_addFamily_50 : decode cX0_addFamily 50 = .ok (.aload_n 0, 1) := by decide +kernel
theorem dX0_addFamily_51 : decode cX0_addFamily 51 = .ok (.getfield 44, 3) := by decide +kernel
theorem dX0_addFamily_54 : decode cX0_addFamily 54 = .ok (.bipush 6, 2) := by decide +kernel
theorem dX0_addFamily_56 : decode cX0_addFamily 56 = .ok (.if_icmp .lt 10, 3) := by decide +kernel
theorem dX0_addFamily_59 : decode cX0_addFamily 59 = .ok (.aload_n 2, 1) := by decide +kernel
theorem dX0_addFamily_60 : decode cX0_addFamily 60 = .ok (.iconst 3, 1) := by decide +kernel
theorem dX0_addFamily_61 : decode cX0_addFamily 61 = .ok (.iconst 0, 1) := by decide +kernel
theorem dX0_addFamily_62 : decode cX0_addFamily 62 = .ok (.invokevirtual 51, 3) := by decide +kernel
theorem dX0_addFamily_65 : decode cX0_addFamily 65 = .ok (.ireturn, 1) := by decide +kernel
theorem dX0_addFamily_66 : decode cX0_addFamily 66 = .ok (.aload_n 0, 1) := by decide +kernel
theorem dX0_addFamily_67 : decode cX0_addFamily 67 = .ok (.getfield 18, 3) := by decide +kernel
theorem dX0_addFamily_70 : decode cX0_addFamily 70 = .ok (.aload_n 0, 1) := by decide +kernel
theorem dX0_addFamily_71 : decode cX0_addFamily 71 = .ok (.getfield 44, 3) := by decide +kernel
theorem dX0_addFamily_74 : decode cX0_addFamily 74 = .ok (.aload_n 1, 1) := by decide +kernel
theorem dX0_addFamily_75 : decode cX0_addFamily 75 = .ok (.getfield 74, 3) := by decide +kernel
theorem dX0_addFamily_78 : decode cX0_addFamily 78 = .ok (.iastore, 1) := by decide +kernel
theorem dX0_addFamily_79 : decode cX0_addFamily 79 = .ok (.aload_n 0, 1) := by decide +kernel
theorem dX0_addFamily_80 : decode cX0_addFamily 80 = .ok (.getfield 21, 3) := by decide +kernel
theorem dX0_addFamily_83 : decode cX0_addFamily 83 = .ok (.aload_n 0, 1) := by decide +kernel
theorem dX0_addFamily_84 : decode cX0_addFamily 84 = .ok (.getfield 44, 3) := by decide +kernel
theorem dX0_addFamily_87 : decode cX0_addFamily 87 = .ok (.aload_n 1, 1) := by decide +kernel
theorem dX0_addFamily_88 : decode cX0_addFamily 88 = .ok (.getfield 77, 3) := by decide +kernel
theorem dX0_addFamily_91 : decode cX0_addFamily 91 = .ok (.iastore, 1) := by decide +kernel
theorem dX0_addFamily_92 : decode cX0_addFamily 92 = .ok (.iconst 0, 1) := by decide +kernel
theorem dX0_addFamily_93 : decode cX0_addFamily 93 = .ok (.istore 4, 2) := by decide +kernel
theorem dX0_addFamily_95 : decode cX0_addFamily 95 = .ok (.iload 4, 2) := by decide +kernel
theorem dX0_addFamily_97 : decode cX0_addFamily 97 = .ok (.bipush 8, 2) := by decide +kernel
theorem dX0_addFamily_99 : decode cX0_addFamily 99 = .ok (.if_icmp .ge 30, 3) := by decide +kernel
theorem dX0_addFamily_102 : decode cX0_addFamily 102 = .ok (.aload_n 0, 1) := by decide +kernel
theorem dX0_addFamily_103 : decode cX0_addFamily 103 = .ok (.getfield 24, 3) := by decide +kernel
theorem dX0_addFamily_106 : decode cX0_addFamily 106 = .ok (.aload_n 0, 1) := by decide +kernel
theorem dX0_addFamily_107 : decode cX0_addFamily 107 = .ok (.getfield 44, 3) := by decide +kernel
theorem dX0_addFamily_110 : decode cX0_addFamily 110 = .ok (.bipush 8, 2) := by decide +kernel
theorem dX0_addFamily_112 : decode cX0_addFamily 112 = .ok (.imul, 1) := by decide +kernel
theorem dX0_addFamily_113 : decode cX0_addFamily 113 = .ok (.iload 4, 2) := by decide +kernel
theorem dX0_addFamily_115 : decode cX0_addFamily 115 = .ok (.iadd, 1) := by decide +kernel
theorem dX0_addFamily_116 : decode cX0_addFamily 116 = .ok (.aload_n 1, 1) := by decide +kernel
theorem dX0_addFamily_117 : decode cX0_addFamily 117 = .ok (.iload 4, 2) := by decide +kernel
theorem dX0_addFamily_119 : decode cX0_addFamily 119 = .ok (.invokevirtual 80, 3) := by decide +kernel
theorem dX0_addFamily_122 : decode cX0_addFamily 122 = .ok (.iastore, 1) := by decide +kernel
theorem dX0_addFamily_123 : decode cX0_addFamily 123 = .ok (.iinc 4 1, 3) := by decide +kernel
theorem dX0_addFamily_126 : decode cX0_addFamily 126 = .ok (.goto (-31), 3) := by decide +kernel
theorem dX0_addFamily_129 : decode cX0_addFamily 129 = .ok (.aload_n 0, 1) := by decide +kernel
theorem dX0_addFamily_130 : decode cX0_addFamily 130 = .ok (.dup, 1) := by decide +kernel
theorem dX0_addFamily_131 : decode cX0_addFamily 131 = .ok (.getfield 44, 3) := by decide +kernel
theorem dX0_addFamily_134 : decode cX0_addFamily 134 = .ok (.iconst 1, 1) := by decide +kernel
theorem dX0_addFamily_135 : decode cX0_addFamily 135 = .ok (.iadd, 1) := by decide +kernel
theorem dX0_addFamily_136 : decode cX0_addFamily 136 = .ok (.putfield 44, 3) := by decide +kernel
theorem dX0_addFamily_139 : decode cX0_addFamily 139 = .ok (.aload_n 0, 1) := by decide +kernel
theorem dX0_addFamily_140 : decode cX0_addFamily 140 = .ok (.getfield 44, 3) := by decide +kernel
theorem dX0_addFamily_143 : decode cX0_addFamily 143 = .ok (.iconst 1, 1) := by decide +kernel
theorem dX0_addFamily_144 : decode cX0_addFamily 144 = .ok (.isub, 1) := by decide +kernel
theorem dX0_addFamily_145 : decode cX0_addFamily 145 = .ok (.ireturn, 1) := by decide +kernel
theorem dX0_changeSetting_0 : decode cX0_changeSetting 0 = .ok (.iload_n 1, 1) := by decide +kernel
theorem dX0_changeSetting_1 : decode cX0_changeSetting 1 = .ok (.iconst 0, 1) := by decide +kernel
theorem dX0_changeSetting_2 : decode cX0_changeSetting 2 = .ok (.iconst 3, 1) := by decide +kernel
theorem dX0_changeSetting_3 : decode cX0_changeSetting 3 = .ok (.invokestatic 47, 3) := by decide +kernel
theorem dX0_changeSetting_6 : decode cX0_changeSetting 6 = .ok (.ifCond .eq 20, 3) := by decide +kernel
theorem dX0_changeSetting_9 : decode cX0_changeSetting 9 = .ok (.iload_n 2, 1) := by decide +kernel
theorem dX0_changeSetting_10 : decode cX0_changeSetting 10 = .ok (.getstatic 84, 3) := by decide +kernel
theorem dX0_changeSetting_13 : decode cX0_changeSetting 13 = .ok (.iload_n 1, 1) := by decide +kernel
theorem dX0_changeSetting_14 : decode cX0_changeSetting 14 = .ok (.iaload, 1) := by decide +kernel
theorem dX0_changeSetting_15 : decode cX0_changeSetting 15 = .ok (.getstatic 87, 3) := by decide +kernel
theorem dX0_changeSetting_18 : decode cX0_changeSetting 18 = .ok (.iload_n 1, 1) := by decide +kernel
theorem dX0_changeSetting_19 : decode cX0_changeSetting 19 = .ok (.iaload, 1) := by decide +kernel
theorem dX0_changeSetting_20 : decode cX0_changeSetting 20 = .ok (.invokestatic 47, 3) := by decide +kernel
theorem dX0_changeSetting_23 : decode cX0_changeSetting 23 = .ok (.ifCond .ne 10, 3) := by decide +kernel
theorem dX0_changeSetting_26 : decode cX0_changeSetting 26 = .ok (.aload_n 3, 1) := by decide +kernel
theorem dX0_changeSetting_27 : decode cX0_changeSetting 27 = .ok (.iconst 2, 1) := by decide +kernel
theorem dX0_changeSetting_28 : decode cX0_changeSetting 28 = .ok (.iconst 0, 1) := by decide +kernel
theorem dX0_changeSetting_29 : decode cX0_changeSetting 29 = .ok (.invokevirtual 51, 3) := by decide +kernel
theorem dX0_changeSetting_32 : decode cX0_changeSetting 32 = .ok (.ireturn, 1) := by decide +kernel
theorem dX0_changeSetting_33 : decode cX0_changeSetting 33 = .ok (.aload_n 0, 1) := by decide +kernel
theorem dX0_changeSetting_34 : decode cX0_changeSetting 34 = .ok (.getfield 27, 3) := by decide +kernel
theorem dX0_changeSetting_37 : decode cX0_changeSetting 37 = .ok (.iload_n 1, 1) := by decide +kernel
theorem dX0_changeSetting_38 : decode cX0_changeSetting 38 = .ok (.iaload, 1) := by decide +kernel
theorem dX0_changeSetting_39 : decode cX0_changeSetting 39 = .ok (.istore 4, 2) := by decide +kernel
theorem dX0_changeSetting_41 : decode cX0_changeSetting 41 = .ok (.aload_n 0, 1) := by decide +kernel
theorem dX0_changeSetting_42 : decode cX0_changeSetting 42 = .ok (.getfield 27, 3) := by decide +kernel
theorem dX0_changeSetting_45 : decode cX0_changeSetting 45 = .ok (.iload_n 1, 1) := by decide +kernel
theorem dX0_changeSetting_46 : decode cX0_changeSetting 46 = .ok (.iload_n 2, 1) := by decide +kernel
theorem dX0_changeSetting_47 : decode cX0_changeSetting 47 = .ok (.iastore, 1) := by decide +kernel
theorem dX0_changeSetting_48 : decode cX0_changeSetting 48 = .ok (.iload 4, 2) := by decide +kernel
theorem dX0_changeSetting_50 : decode cX0_changeSetting 50 = .ok (.ireturn, 1) := by decide +kernel
theorem dX0_purgeShots_0 : decode cX0_purgeShots 0 = .ok (.aload_n 0, 1) := by decide +kernel
theorem dX0_purgeShots_1 : decode cX0_purgeShots 1 = .ok (.iload_n 1, 1) := by decide +kernel
theorem dX0_purgeShots_2 : decode cX0_purgeShots 2 = .ok (.invokevirtual 90, 3) := by decide +kernel
theorem dX0_purgeShots_5 : decode cX0_purgeShots 5 = .ok (.ifCond .eq 16, 3) := by decide +kernel
theorem dX0_purgeShots_8 : decode cX0_purgeShots 8 = .ok (.aload_n 0, 1) := by decide +kernel
theorem dX0_purgeShots_9 : decode cX0_purgeShots 9 = .ok (.iload_n 2, 1) := by decide +kernel
theorem dX0_purgeShots_10 : decode cX0_purgeShots 10 = .ok (.invokevirtual 90, 3) := by decide +kernel
theorem dX0_purgeShots_13 : decode cX0_purgeShots 13 = .ok (.ifCond .eq 8, 3) := by decide +kernel
theorem dX0_purgeShots_16 : decode cX0_purgeShots 16 = .ok (.iload_n 1, 1) := by decide +kernel
theorem dX0_purgeShots_17 : decode cX0_purgeShots 17 = .ok (.iload_n 2, 1) := by decide +kernel
theorem dX0_purgeShots_18 : decode cX0_purgeShots 18 = .ok (.if_icmp .ne 5, 3) := by decide +kernel
theorem dX0_purgeShots_21 : decode cX0_purgeShots 21 = .ok (.iconst 0, 1) := by decide +kernel
theorem dX0_purgeShots_22 : decode cX0_purgeShots 22 = .ok (.ireturn, 1) := by decide +kernel
theorem dX0_purgeShots_23 : decode cX0_purgeShots 23 = .ok (.iconst 1, 1) := by decide +kernel
theorem dX0_purgeShots_24 : decode cX0_purgeShots 24 = .ok (.iconst 0, 1) := by decide +kernel
theorem dX0_purgeShots_25 : decode cX0_purgeShots 25 = .ok (.aload_n 0, 1) := by decide +kernel
theorem dX0_purgeShots_26 : decode cX0_purgeShots 26 = .ok (.getfield 9, 3) := by decide +kernel
theorem dX0_purgeShots_29 : decode cX0_purgeShots 29 = .ok (.iload_n 1, 1) := by decide +kernel
theorem dX0_purgeShots_30 : decode cX0_purgeShots 30 = .ok (.iaload, 1) := by decide +kernel
theorem dX0_purgeShots_31 : decode cX0_purgeShots 31 = .ok (.aload_n 0, 1) := by decide +kernel
theorem dX0_purgeShots_32 : decode cX0_purgeShots 32 = .ok (.getfield 9, 3) := by decide +kernel
theorem dX0_purgeShots_35 : decode cX0_purgeShots 35 = .ok (.iload_n 2, 1) := by decide +kernel
theorem dX0_purgeShots_36 : decode cX0_purgeShots 36 = .ok (.iaload, 1) := by decide +kernel
theorem dX0_purgeShots_37 : decode cX0_purgeShots 37 = .ok (.isub, 1) := by decide +kernel
theorem dX0_purgeShots_38 : decode cX0_purgeShots 38 = .ok (.invokestatic 93, 3) := by decide +kernel
theorem dX0_purgeShots_41 : decode cX0_purgeShots 41 = .ok (.aload_n 0, 1) := by decide +kernel
theorem dX0_purgeShots_42 : decode cX0_purgeShots 42 = .ok (.getfield 27, 3) := by decide +kernel
theorem dX0_purgeShots_45 : decode cX0_purgeShots 45 = .ok (.iconst 2, 1) := by decide +kernel
theorem dX0_purgeShots_46 : decode cX0_purgeShots 46 = .ok (.iaload, 1) := by decide +kernel
theorem dX0_purgeShots_47 : decode cX0_purgeShots 47 = .ok (.imul, 1) := by decide +kernel
theorem dX0_purgeShots_48 : decode cX0_purgeShots 48 = .ok (.iadd, 1) := by decide +kernel
theorem dX0_purgeShots_49 : decode cX0_purgeShots 49 = .ok (.ireturn, 1) := by decide +kernel
theorem dX0_piecesOf_0 : decode cX0_piecesOf 0 = .ok (.aload_n 0, 1) := by decide +kernel
theorem dX0_piecesOf_1 : decode cX0_piecesOf 1 = .ok (.iload_n 1, 1) := by decide +kernel
theorem dX0_piecesOf_2 : decode cX0_piecesOf 2 = .ok (.invokevirtual 98, 3) := by decide +kernel
theorem dX0_piecesOf_5 : decode cX0_piecesOf 5 = .ok (.ifCond .eq 11, 3) := by decide +kernel
theorem dX0_piecesOf_8 : decode cX0_piecesOf 8 = .ok (.aload_n 0, 1) := by decide +kernel
theorem dX0_piecesOf_9 : decode cX0_piecesOf 9 = .ok (.iload_n 2, 1) := by decide +kernel
theorem dX0_piecesOf_10 : decode cX0_piecesOf 10 = .ok (.invokevirtual 67, 3) := by decide +kernel
theorem dX0_piecesOf_13 : decode cX0_piecesOf 13 = .ok (.ifCond .ne 5, 3) := by decide +kernel
theorem dX0_piecesOf_16 : decode cX0_piecesOf 16 = .ok (.iconst 0, 1) := by decide +kernel
theorem dX0_piecesOf_17 : decode cX0_piecesOf 17 = .ok (.ireturn, 1) := by decide +kernel
theorem dX0_piecesOf_18 : decode cX0_piecesOf 18 = .ok (.aload_n 0, 1) := by decide +kernel
theorem dX0_piecesOf_19 : decode cX0_piecesOf 19 = .ok (.getfield 24, 3) := by decide +kernel
theorem dX0_piecesOf_22 : decode cX0_piecesOf 22 = .ok (.iload_n 1, 1) := by decide +kernel
theorem dX0_piecesOf_23 : decode cX0_piecesOf 23 = .ok (.bipush 8, 2) := by decide +kernel
theorem dX0_piecesOf_25 : decode cX0_piecesOf 25 = .ok (.imul, 1) := by decide +kernel
theorem dX0_piecesOf_26 : decode cX0_piecesOf 26 = .ok (.iload_n 2, 1) := by decide +kernel
theorem dX0_piecesOf_27 : decode cX0_piecesOf 27 = .ok (.iadd, 1) := by decide +kernel
theorem dX0_piecesOf_28 : decode cX0_piecesOf 28 = .ok (.iaload, 1) := by decide +kernel
theorem dX0_piecesOf_29 : decode cX0_piecesOf 29 = .ok (.ireturn, 1) := by decide +kernel
theorem dX0_partsOf_0 : decode cX0_partsOf 0 = .ok (.iconst 0, 1) := by decide +kernel
theorem dX0_partsOf_1 : decode cX0_partsOf 1 = .ok (.istore_n 2, 1) := by decide +kernel
theorem dX0_partsOf_2 : decode cX0_partsOf 2 = .ok (.iconst 0, 1) := by decide +kernel
theorem dX0_partsOf_3 : decode cX0_partsOf 3 = .ok (.istore_n 3, 1) := by decide +kernel
theorem dX0_partsOf_4 : decode cX0_partsOf 4 = .ok (.iload_n 3, 1) := by decide +kernel
theorem dX0_partsOf_5 : decode cX0_partsOf 5 = .ok (.aload_n 0, 1) := by decide +kernel
theorem dX0_partsOf_6 : decode cX0_partsOf 6 = .ok (.getfield 41, 3) := by decide +kernel
theorem dX0_partsOf_9 : decode cX0_partsOf 9 = .ok (.if_icmp .ge 26, 3) := by decide +kernel
theorem dX0_partsOf_12 : decode cX0_partsOf 12 = .ok (.iload_n 2, 1) := by decide +kernel
theorem dX0_partsOf_13 : decode cX0_partsOf 13 = .ok (.aload_n 0, 1) := by decide +kernel
theorem dX0_partsOf_14 : decode cX0_partsOf 14 = .ok (.iload_n 1, 1) := by decide +kernel
theorem dX0_partsOf_15 : decode cX0_partsOf 15 = .ok (.iload_n 3, 1) := by decide +kernel
theorem dX0_partsOf_16 : decode cX0_partsOf 16 = .ok (.invokevirtual 101, 3) := by decide +kernel
theorem dX0_partsOf_19 : decode cX0_partsOf 19 = .ok (.ifCond .le 7, 3) := by decide +kernel
theorem dX0_partsOf_22 : decode cX0_partsOf 22 = .ok (.iconst 1, 1) := by decide +kernel
theorem dX0_partsOf_23 : decode cX0_partsOf 23 = .ok (.goto 4, 3) := by decide +kernel
theorem dX0_partsOf_26 : decode cX0_partsOf 26 = .ok (.iconst 0, 1) := by decide +kernel
theorem dX0_partsOf_27 : decode cX0_partsOf 27 = .ok (.iadd, 1) := by decide +kernel
theorem dX0_partsOf_28 : decode cX0_partsOf 28 = .ok (.istore_n 2, 1) := by decide +kernel
theorem dX0_partsOf_29 : decode cX0_partsOf 29 = .ok (.iinc 3 1, 3) := by decide +kernel
theorem dX0_partsOf_32 : decode cX0_partsOf 32 = .ok (.goto (-28), 3) := by decide +kernel
theorem dX0_partsOf_35 : decode cX0_partsOf 35 = .ok (.iload_n 2, 1) := by decide +kernel
theorem dX0_partsOf_36 : decode cX0_partsOf 36 = .ok (.ireturn, 1) := by decide +kernel
theorem dX0_allPiecesOf_0 : decode cX0_allPiecesOf 0 = .ok (.iconst 0, 1) := by decide +kernel
theorem dX0_allPiecesOf_1 : decode cX0_allPiecesOf 1 = .ok (.istore_n 2, 1) := by decide +kernel
theorem dX0_allPiecesOf_2 : decode cX0_allPiecesOf 2 = .ok (.iconst 0, 1) := by decide +kernel
theorem dX0_allPiecesOf_3 : decode cX0_allPiecesOf 3 = .ok (.istore_n 3, 1) := by decide +kernel
theorem dX0_allPiecesOf_4 : decode cX0_allPiecesOf 4 = .ok (.iload_n 3, 1) := by decide +kernel
theorem dX0_allPiecesOf_5 : decode cX0_allPiecesOf 5 = .ok (.aload_n 0, 1) := by decide +kernel
theorem dX0_allPiecesOf_6 : decode cX0_allPiecesOf 6 = .ok (.getfield 41, 3) := by decide +kernel
theorem dX0_allPiecesOf_9 : decode cX0_allPiecesOf 9 = .ok (.if_icmp .ge 18, 3) := by decide +kernel
theorem dX0_allPiecesOf_12 : decode cX0_allPiecesOf 12 = .ok (.iload_n 2, 1) := by decide +kernel
theorem dX0_allPiecesOf_13 : decode cX0_allPiecesOf 13 = .ok (.aload_n 0, 1) := by decide +kernel
theorem dX0_allPiecesOf_14 : decode cX0_allPiecesOf 14 = .ok (.iload_n 1, 1) := by decide +kernel
theorem dX0_allPiecesOf_15 : decode cX0_allPiecesOf 15 = .ok (.iload_n 3, 1) := by decide +kernel
theorem dX0_allPiecesOf_16 : decode cX0_allPiecesOf 16 = .ok (.invokevirtual 101, 3) := by decide +kernel
theorem dX0_allPiecesOf_19 : decode cX0_allPiecesOf 19 = .ok (.iadd, 1) := by decide +kernel
theorem dX0_allPiecesOf_20 : decode cX0_allPiecesOf 20 = .ok (.istore_n 2, 1) := by decide +kernel
theorem dX0_allPiecesOf_21 : decode cX0_allPiecesOf 21 = .ok (.iinc 3 1, 3) := by decide +kernel
theorem dX0_allPiecesOf_24 : decode cX0_allPiecesOf 24 = .ok (.goto (-20), 3) := by decide +kernel
theorem dX0_allPiecesOf_27 : decode cX0_allPiecesOf 27 = .ok (.iload_n 2, 1) := by decide +kernel
theorem dX0_allPiecesOf_28 : decode cX0_allPiecesOf 28 = .ok (.ireturn, 1) := by decide +kernel
theorem dX0_familiesWith_0 : decode cX0_familiesWith 0 = .ok (.iconst 0, 1) := by decide +kernel
theorem dX0_familiesWith_1 : decode cX0_familiesWith 1 = .ok (.istore_n 2, 1) := by decide +kernel
theorem dX0_familiesWith_2 : decode cX0_familiesWith 2 = .ok (.iconst 0, 1) := by decide +kernel
theorem dX0_familiesWith_3 : decode cX0_familiesWith 3 = .ok (.istore_n 3, 1) := by decide +kernel
theorem dX0_familiesWith_4 : decode cX0_familiesWith 4 = .ok (.iload_n 3, 1) := by decide +kernel
theorem dX0_familiesWith_5 : decode cX0_familiesWith 5 = .ok (.aload_n 0, 1) := by decide +kernel
theorem dX0_familiesWith_6 : decode cX0_familiesWith 6 = .ok (.getfield 44, 3) := by decide +kernel
theorem dX0_familiesWith_9 : decode cX0_familiesWith 9 = .ok (.if_icmp .ge 28, 3) := by decide +kernel
theorem dX0_familiesWith_12 : decode cX0_familiesWith 12 = .ok (.iload_n 2, 1) := by decide +kernel
theorem dX0_familiesWith_13 : decode cX0_familiesWith 13 = .ok (.aload_n 0, 1) := by decide +kernel
theorem dX0_familiesWith_14 : decode cX0_familiesWith 14 = .ok (.iload_n 3, 1) := by decide +kernel
theorem dX0_familiesWith_15 : decode cX0_familiesWith 15 = .ok (.iload_n 1, 1) := by decide +kernel
theorem dX0_familiesWith_16 : decode cX0_familiesWith 16 = .ok (.invokevirtual 101, 3) := by decide +kernel
theorem dX0_familiesWith_19 : decode cX0_familiesWith 19 = .ok (.ifCond .le 9, 3) := by decide +kernel
theorem dX0_familiesWith_22 : decode cX0_familiesWith 22 = .ok (.iconst 1, 1) := by decide +kernel
theorem dX0_familiesWith_23 : decode cX0_familiesWith 23 = .ok (.iload_n 3, 1) := by decide +kernel
theorem dX0_familiesWith_24 : decode cX0_familiesWith 24 = .ok (.ishl, 1) := by decide +kernel
theorem dX0_familiesWith_25 : decode cX0_familiesWith 25 = .ok (.goto 4, 3) := by decide +kernel
theorem dX0_familiesWith_28 : decode cX0_familiesWith 28 = .ok (.iconst 0, 1) := by decide +kernel
theorem dX0_familiesWith_29 : decode cX0_familiesWith 29 = .ok (.ior, 1) := by decide +kernel
theorem dX0_familiesWith_30 : decode cX0_familiesWith 30 = .ok (.istore_n 2, 1) := by decide +kernel
theorem dX0_familiesWith_31 : decode cX0_familiesWith 31 = .ok (.iinc 3 1, 3) := by decide +kernel
theorem dX0_familiesWith_34 : decode cX0_familiesWith 34 = .ok (.goto (-30), 3) := by decide +kernel
theorem dX0_familiesWith_37 : decode cX0_familiesWith 37 = .ok (.iload_n 2, 1) := by decide +kernel
theorem dX0_familiesWith_38 : decode cX0_familiesWith 38 = .ok (.ireturn, 1) := by decide +kernel
theorem dX1_init_0 : decode cX1_init 0 = .ok (.aload_n 0, 1) := by decide +kernel
theorem dX1_init_1 : decode cX1_init 1 = .ok (.invokespecial 3, 3) := by decide +kernel
theorem dX1_init_4 : decode cX1_init 4 = .ok (.aload_n 0, 1) := by decide +kernel
theorem dX1_init_5 : decode cX1_init 5 = .ok (.bipush 42, 2) := by decide +kernel
theorem dX1_init_7 : decode cX1_init 7 = .ok (.newarray .int, 2) := by decide +kernel
theorem dX1_init_9 : decode cX1_init 9 = .ok (.putfield 11, 3) := by decide +kernel
theorem dX1_init_12 : decode cX1_init 12 = .ok (.aload_n 0, 1) := by decide +kernel
theorem dX1_init_13 : decode cX1_init 13 = .ok (.sipush 448, 3) := by decide +kernel
theorem dX1_init_16 : decode cX1_init 16 = .ok (.newarray .int, 2) := by decide +kernel
theorem dX1_init_18 : decode cX1_init 18 = .ok (.putfield 15, 3) := by decide +kernel
theorem dX1_init_21 : decode cX1_init 21 = .ok (.return_, 1) := by decide +kernel
theorem dX1_leastSum_0 : decode cX1_leastSum 0 = .ok (.aload_n 0, 1) := by decide +kernel
theorem dX1_leastSum_1 : decode cX1_leastSum 1 = .ok (.aload_n 1, 1) := by decide +kernel
theorem dX1_leastSum_2 : decode cX1_leastSum 2 = .ok (.getfield 18, 3) := by decide +kernel
theorem dX1_leastSum_5 : decode cX1_leastSum 5 = .ok (.iload_n 2, 1) := by decide +kernel
theorem dX1_leastSum_6 : decode cX1_leastSum 6 = .ok (.invokevirtual 24, 3) := by decide +kernel
theorem dX1_leastSum_9 : decode cX1_leastSum 9 = .ok (.aload_n 0, 1) := by decide +kernel
theorem dX1_leastSum_10 : decode cX1_leastSum 10 = .ok (.getfield 15, 3) := by decide +kernel
theorem dX1_leastSum_13 : decode cX1_leastSum 13 = .ok (.iload_n 2, 1) := by decide +kernel
theorem dX1_leastSum_14 : decode cX1_leastSum 14 = .ok (.bipush 7, 2) := by decide +kernel
theorem dX1_leastSum_16 : decode cX1_leastSum 16 = .ok (.imul, 1) := by decide +kernel
theorem dX1_leastSum_17 : decode cX1_leastSum 17 = .ok (.aload_n 1, 1) := by decide +kernel
theorem dX1_leastSum_18 : decode cX1_leastSum 18 = .ok (.getfield 28, 3) := by decide +kernel
theorem dX1_leastSum_21 : decode cX1_leastSum 21 = .ok (.iadd, 1) := by decide +kernel
theorem dX1_leastSum_22 : decode cX1_leastSum 22 = .ok (.iconst 1, 1) := by decide +kernel
theorem dX1_leastSum_23 : decode cX1_leastSum 23 = .ok (.iadd, 1) := by decide +kernel
theorem dX1_leastSum_24 : decode cX1_leastSum 24 = .ok (.iaload, 1) := by decide +kernel
theorem dX1_leastSum_25 : decode cX1_leastSum 25 = .ok (.ireturn, 1) := by decide +kernel
theorem dX1_leastSumByTrying_0 : decode cX1_leastSumByTrying 0 = .ok (.aload_n 0, 1) := by decide +kernel
theorem dX1_leastSumByTrying_1 : decode cX1_leastSumByTrying 1 = .ok (.aload_n 1, 1) := by decide +kernel
theorem dX1_leastSumByTrying_2 : decode cX1_leastSumByTrying 2 = .ok (.getfield 18, 3) := by decide +kernel
theorem dX1_leastSumByTrying_5 : decode cX1_leastSumByTrying 5 = .ok (.invokevirtual 32, 3) := by decide +kernel
theorem dX1_leastSumByTrying_8 : decode cX1_leastSumByTrying 8 = .ok (.aload_n 0, 1) := by decide +kernel
theorem dX1_leastSumByTrying_9 : decode cX1_leastSumByTrying 9 = .ok (.getfield 11, 3) := by decide +kernel
theorem dX1_leastSumByTrying_12 : decode cX1_leastSumByTrying 12 = .ok (.aload_n 1, 1) := by decide +kernel
theorem dX1_leastSumByTrying_13 : decode cX1_leastSumByTrying 13 = .ok (.getfield 28, 3) := by decide +kernel
theorem dX1_leastSumByTrying_16 : decode cX1_leastSumByTrying 16 = .ok (.iconst 1, 1) := by decide +kernel
theorem dX1_leastSumByTrying_17 : decode cX1_leastSumByTrying 17 = .ok (.iadd, 1) := by decide +kernel
theorem dX1_leastSumByTrying_18 : decode cX1_leastSumByTrying 18 = .ok (.iload_n 2, 1) := by decide +kernel
theorem dX1_leastSumByTrying_19 : decode cX1_leastSumByTrying 19 = .ok (.iconst 0, 1) := by decide +kernel
theorem dX1_leastSumByTrying_20 : decode cX1_leastSumByTrying 20 = .ok (.invokestatic 36, 3) := by decide +kernel
theorem dX1_leastSumByTrying_23 : decode cX1_leastSumByTrying 23 = .ok (.ireturn, 1) := by decide +kernel
theorem dX1_colourAt_0 : decode cX1_colourAt 0 = .ok (.aload_n 0, 1) := by decide +kernel
theorem dX1_colourAt_1 : decode cX1_colourAt 1 = .ok (.aload_n 1, 1) := by decide +kernel
theorem dX1_colourAt_2 : decode cX1_colourAt 2 = .ok (.getfield 18, 3) := by decide +kernel
theorem dX1_colourAt_5 : decode cX1_colourAt 5 = .ok (.iload_n 2, 1) := by decide +kernel
theorem dX1_colourAt_6 : decode cX1_colourAt 6 = .ok (.invokevirtual 24, 3) := by decide +kernel
theorem dX1_colourAt_9 : decode cX1_colourAt 9 = .ok (.iload_n 2, 1) := by decide +kernel
theorem dX1_colourAt_10 : decode cX1_colourAt 10 = .ok (.istore 4, 2) := by decide +kernel
theorem dX1_colourAt_12 : decode cX1_colourAt 12 = .ok (.aload_n 1, 1) := by decide +kernel
theorem dX1_colourAt_13 : decode cX1_colourAt 13 = .ok (.getfield 28, 3) := by decide +kernel
theorem dX1_colourAt_16 : decode cX1_colourAt 16 = .ok (.iconst 1, 1) := by decide +kernel
theorem dX1_colourAt_17 : decode cX1_colourAt 17 = .ok (.iadd, 1) := by decide +kernel
theorem dX1_colourAt_18 : decode cX1_colourAt 18 = .ok (.istore 5, 2) := by decide +kernel
theorem dX1_colourAt_20 : decode cX1_colourAt 20 = .ok (.iconst (-1), 1) := by decide +kernel
theorem dX1_colourAt_21 : decode cX1_colourAt 21 = .ok (.istore 6, 2) := by decide +kernel
theorem dX1_colourAt_23 : decode cX1_colourAt 23 = .ok (.iconst 0, 1) := by decide +kernel
theorem dX1_colourAt_24 : decode cX1_colourAt 24 = .ok (.istore 7, 2) := by decide +kernel
theorem dX1_colourAt_26 : decode cX1_colourAt 26 = .ok (.iload 7, 2) := by decide +kernel
theorem dX1_colourAt_28 : decode cX1_colourAt 28 = .ok (.iload_n 3, 1) := by decide +kernel
theorem dX1_colourAt_29 : decode cX1_colourAt 29 = .ok (.if_icmp .gt 41, 3) := by decide +kernel
theorem dX1_colourAt_32 : decode cX1_colourAt 32 = .ok (.iload 4, 2) := by decide +kernel
theorem dX1_colourAt_34 : decode cX1_colourAt 34 = .ok (.ifCond .eq 36, 3) := by decide +kernel
theorem dX1_colourAt_37 : decode cX1_colourAt 37 = .ok (.aload_n 0, 1) := by decide +kernel
theorem dX1_colourAt_38 : decode cX1_colourAt 38 = .ok (.iload 5, 2) := by decide +kernel
theorem dX1_colourAt_40 : decode cX1_colourAt 40 = .ok (.iload 4, 2) := by decide +kernel
theorem dX1_colourAt_42 : decode cX1_colourAt 42 = .ok (.invokevirtual 40, 3) := by decide +kernel
theorem dX1_colourAt_45 : decode cX1_colourAt 45 = .ok (.istore 6, 2) := by decide +kernel
theorem dX1_colourAt_47 : decode cX1_colourAt 47 = .ok (.iload 4, 2) := by decide +kernel
theorem dX1_colourAt_49 : decode cX1_colourAt 49 = .ok (.iconst 1, 1) := by decide +kernel
theorem dX1_colourAt_50 : decode cX1_colourAt 50 = .ok (.iload 6, 2) := by decide +kernel
theorem dX1_colourAt_52 : decode cX1_colourAt 52 = .ok (.ishl, 1) := by decide +kernel
theorem dX1_colourAt_53 : decode cX1_colourAt 53 = .ok (.iconst (-1), 1) := by decide +kernel
theorem dX1_colourAt_54 : decode cX1_colourAt 54 = .ok (.ixor, 1) := by decide +kernel
theorem dX1_colourAt_55 : decode cX1_colourAt 55 = .ok (.iand, 1) := by decide +kernel
theorem dX1_colourAt_56 : decode cX1_colourAt 56 = .ok (.istore 4, 2) := by decide +kernel
theorem dX1_colourAt_58 : decode cX1_colourAt 58 = .ok (.iload 6, 2) := by decide +kernel
theorem dX1_colourAt_60 : decode cX1_colourAt 60 = .ok (.iconst 1, 1) := by decide +kernel
theorem dX1_colourAt_61 : decode cX1_colourAt 61 = .ok (.iadd, 1) := by decide +kernel
theorem dX1_colourAt_62 : decode cX1_colourAt 62 = .ok (.istore 5, 2) := by decide +kernel
theorem dX1_colourAt_64 : decode cX1_colourAt 64 = .ok (.iinc 7 1, 3) := by decide +kernel
theorem dX1_colourAt_67 : decode cX1_colourAt 67 = .ok (.goto (-41), 3) := by decide +kernel
theorem dX1_colourAt_70 : decode cX1_colourAt 70 = .ok (.iload 6, 2) := by decide +kernel
theorem dX1_colourAt_72 : decode cX1_colourAt 72 = .ok (.ireturn, 1) := by decide +kernel
theorem dX1_lowestBest_0 : decode cX1_lowestBest 0 = .ok (.iconst 0, 1) := by decide +kernel
theorem dX1_lowestBest_1 : decode cX1_lowestBest 1 = .ok (.istore_n 3, 1) := by decide +kernel
theorem dX1_lowestBest_2 : decode cX1_lowestBest 2 = .ok (.ldc 44, 2) := by decide +kernel
theorem dX1_lowestBest_4 : decode cX1_lowestBest 4 = .ok (.istore 4, 2) := by decide +kernel
theorem dX1_lowestBest_6 : decode cX1_lowestBest 6 = .ok (.iconst 0, 1) := by decide +kernel
theorem dX1_lowestBest_7 : decode cX1_lowestBest 7 = .ok (.istore 5, 2) := by decide +kernel
theorem dX1_lowestBest_9 : decode cX1_lowestBest 9 = .ok (.iload 5, 2) := by decide +kernel
theorem dX1_lowestBest_11 : decode cX1_lowestBest 11 = .ok (.bipush 6, 2) := by decide +kernel
theorem dX1_lowestBest_13 : decode cX1_lowestBest 13 = .ok (.if_icmp .ge 45, 3) := by decide +kernel
theorem dX1_lowestBest_16 : decode cX1_lowestBest 16 = .ok (.iload_n 2, 1) := by decide +kernel
theorem dX1_lowestBest_17 : decode cX1_lowestBest 17 = .ok (.iload 5, 2) := by decide +kernel
theorem dX1_lowestBest_19 : decode cX1_lowestBest 19 = .ok (.ishr, 1) := by decide +kernel
theorem dX1_lowestBest_20 : decode cX1_lowestBest 20 = .ok (.iconst 1, 1) := by decide +kernel
theorem dX1_lowestBest_21 : decode cX1_lowestBest 21 = .ok (.iand, 1) := by decide +kernel
theorem dX1_lowestBest_22 : decode cX1_lowestBest 22 = .ok (.iconst 1, 1) := by decide +kernel
theorem dX1_lowestBest_23 : decode cX1_lowestBest 23 = .ok (.if_icmp .ne 29, 3) := by decide +kernel
theorem dX1_lowestBest_26 : decode cX1_lowestBest 26 = .ok (.aload_n 0, 1) := by decide +kernel
theorem dX1_lowestBest_27 : decode cX1_lowestBest 27 = .ok (.iload_n 1, 1) := by decide +kernel
theorem dX1_lowestBest_28 : decode cX1_lowestBest 28 = .ok (.iload 5, 2) := by decide +kernel
theorem dX1_lowestBest_30 : decode cX1_lowestBest 30 = .ok (.iload_n 2, 1) := by decide +kernel
theorem dX1_lowestBest_31 : decode cX1_lowestBest 31 = .ok (.invokevirtual 45, 3) := by decide +kernel
theorem dX1_lowestBest_34 : decode cX1_lowestBest 34 = .ok (.iload 4, 2) := by decide +kernel
theorem dX1_lowestBest_36 : decode cX1_lowestBest 36 = .ok (.if_icmp .ge 16, 3) := by decide +kernel
theorem dX1_lowestBest_39 : decode cX1_lowestBest 39 = .ok (.aload_n 0, 1) := by decide +kernel
theorem dX1_lowestBest_40 : decode cX1_lowestBest 40 = .ok (.iload_n 1, 1) := by decide +kernel
theorem dX1_lowestBest_41 : decode cX1_lowestBest 41 = .ok (.iload 5, 2) := by decide +kernel
theorem dX1_lowestBest_43 : decode cX1_lowestBest 43 = .ok (.iload_n 2, 1) := by decide +kernel
theorem dX1_lowestBest_44 : decode cX1_lowestBest 44 = .ok (.invokevirtual 45, 3) := by decide +kernel
theorem dX1_lowestBest_47 : decode cX1_lowestBest 47 = .ok (.istore 4, 2) := by decide +kernel
theorem dX1_lowestBest_49 : decode cX1_lowestBest 49 = .ok (.iload 5, 2) := by decide +kernel
theorem dX1_lowestBest_51 : decode cX1_lowestBest 51 = .ok (.istore_n 3, 1) := by decide +kernel
theorem dX1_lowestBest_52 : decode cX1_lowestBest 52 = .ok (.iinc 5 1, 3) := by decide +kernel
theorem dX1_lowestBest_55 : decode cX1_lowestBest 55 = .ok (.goto (-46), 3) := by decide +kernel
theorem dX1_lowestBest_58 : decode cX1_lowestBest 58 = .ok (.iload_n 3, 1) := by decide +kernel
theorem dX1_lowestBest_59 : decode cX1_lowestBest 59 = .ok (.ireturn, 1) := by decide +kernel
theorem dX1_sumThrough_0 : decode cX1_sumThrough 0 = .ok (.aload_n 0, 1) := by decide +kernel
theorem dX1_sumThrough_1 : decode cX1_sumThrough 1 = .ok (.getfield 11, 3) := by decide +kernel
theorem dX1_sumThrough_4 : decode cX1_sumThrough 4 = .ok (.iload_n 1, 1) := by decide +kernel
theorem dX1_sumThrough_5 : decode cX1_sumThrough 5 = .ok (.bipush 6, 2) := by decide +kernel
theorem dX1_sumThrough_7 : decode cX1_sumThrough 7 = .ok (.imul, 1) := by decide +kernel
theorem dX1_sumThrough_8 : decode cX1_sumThrough 8 = .ok (.iload_n 2, 1) := by decide +kernel
theorem dX1_sumThrough_9 : decode cX1_sumThrough 9 = .ok (.iadd, 1) := by decide +kernel
theorem dX1_sumThrough_10 : decode cX1_sumThrough 10 = .ok (.iaload, 1) := by decide +kernel
theorem dX1_sumThrough_11 : decode cX1_sumThrough 11 = .ok (.aload_n 0, 1) := by decide +kernel
theorem dX1_sumThrough_12 : decode cX1_sumThrough 12 = .ok (.getfield 15, 3) := by decide +kernel
theorem dX1_sumThrough_15 : decode cX1_sumThrough 15 = .ok (.iload_n 3, 1) := by decide +kernel
theorem dX1_sumThrough_16 : decode cX1_sumThrough 16 = .ok (.iconst 1, 1) := by decide +kernel
theorem dX1_sumThrough_17 : decode cX1_sumThrough 17 = .ok (.iload_n 2, 1) := by decide +kernel
theorem dX1_sumThrough_18 : decode cX1_sumThrough 18 = .ok (.ishl, 1) := by decide +kernel
theorem dX1_sumThrough_19 : decode cX1_sumThrough 19 = .ok (.iconst (-1), 1) := by decide +kernel
theorem dX1_sumThrough_20 : decode cX1_sumThrough 20 = .ok (.ixor, 1) := by decide +kernel
theorem dX1_sumThrough_21 : decode cX1_sumThrough 21 = .ok (.iand, 1) := by decide +kernel
theorem dX1_sumThrough_22 : decode cX1_sumThrough 22 = .ok (.bipush 7, 2) := by decide +kernel
theorem dX1_sumThrough_24 : decode cX1_sumThrough 24 = .ok (.imul, 1) := by decide +kernel
theorem dX1_sumThrough_25 : decode cX1_sumThrough 25 = .ok (.iload_n 2, 1) := by decide +kernel
theorem dX1_sumThrough_26 : decode cX1_sumThrough 26 = .ok (.iadd, 1) := by decide +kernel
theorem dX1_sumThrough_27 : decode cX1_sumThrough 27 = .ok (.iconst 1, 1) := by decide +kernel
theorem dX1_sumThrough_28 : decode cX1_sumThrough 28 = .ok (.iadd, 1) := by decide +kernel
theorem dX1_sumThrough_29 : decode cX1_sumThrough 29 = .ok (.iaload, 1) := by decide +kernel
theorem dX1_sumThrough_30 : decode cX1_sumThrough 30 = .ok (.iadd, 1) := by decide +kernel
theorem dX1_sumThrough_31 : decode cX1_sumThrough 31 = .ok (.ireturn, 1) := by decide +kernel
theorem dX1_fillPurges_0 : decode cX1_fillPurges 0 = .ok (.iconst 0, 1) := by decide +kernel
theorem dX1_fillPurges_1 : decode cX1_fillPurges 1 = .ok (.istore_n 2, 1) := by decide +kernel
theorem dX1_fillPurges_2 : decode cX1_fillPurges 2 = .ok (.iload_n 2, 1) := by decide +kernel
theorem dX1_fillPurges_3 : decode cX1_fillPurges 3 = .ok (.bipush 7, 2) := by decide +kernel
theorem dX1_fillPurges_5 : decode cX1_fillPurges 5 = .ok (.if_icmp .ge 42, 3) := by decide +kernel
theorem dX1_fillPurges_8 : decode cX1_fillPurges 8 = .ok (.iconst 0, 1) := by decide +kernel
theorem dX1_fillPurges_9 : decode cX1_fillPurges 9 = .ok (.istore_n 3, 1) := by decide +kernel
theorem dX1_fillPurges_10 : decode cX1_fillPurges 10 = .ok (.iload_n 3, 1) := by decide +kernel
theorem dX1_fillPurges_11 : decode cX1_fillPurges 11 = .ok (.bipush 6, 2) := by decide +kernel
theorem dX1_fillPurges_13 : decode cX1_fillPurges 13 = .ok (.if_icmp .ge 28, 3) := by decide +kernel
theorem dX1_fillPurges_16 : decode cX1_fillPurges 16 = .ok (.aload_n 0, 1) := by decide +kernel
theorem dX1_fillPurges_17 : decode cX1_fillPurges 17 = .ok (.getfield 11, 3) := by decide +kernel
theorem dX1_fillPurges_20 : decode cX1_fillPurges 20 = .ok (.iload_n 2, 1) := by decide +kernel
theorem dX1_fillPurges_21 : decode cX1_fillPurges 21 = .ok (.bipush 6, 2) := by decide +kernel
theorem dX1_fillPurges_23 : decode cX1_fillPurges 23 = .ok (.imul, 1) := by decide +kernel
theorem dX1_fillPurges_24 : decode cX1_fillPurges 24 = .ok (.iload_n 3, 1) := by decide +kernel
theorem dX1_fillPurges_25 : decode cX1_fillPurges 25 = .ok (.iadd, 1) := by decide +kernel
theorem dX1_fillPurges_26 : decode cX1_fillPurges 26 = .ok (.aload_n 1, 1) := by decide +kernel
theorem dX1_fillPurges_27 : decode cX1_fillPurges 27 = .ok (.iload_n 2, 1) := by decide +kernel
theorem dX1_fillPurges_28 : decode cX1_fillPurges 28 = .ok (.iconst 1, 1) := by decide +kernel
theorem dX1_fillPurges_29 : decode cX1_fillPurges 29 = .ok (.isub, 1) := by decide +kernel
theorem dX1_fillPurges_30 : decode cX1_fillPurges 30 = .ok (.iload_n 3, 1) := by decide +kernel
theorem dX1_fillPurges_31 : decode cX1_fillPurges 31 = .ok (.invokevirtual 49, 3) := by decide +kernel
theorem dX1_fillPurges_34 : decode cX1_fillPurges 34 = .ok (.iastore, 1) := by decide +kernel
theorem dX1_fillPurges_35 : decode cX1_fillPurges 35 = .ok (.iinc 3 1, 3) := by decide +kernel
theorem dX1_fillPurges_38 : decode cX1_fillPurges 38 = .ok (.goto (-28), 3) := by decide +kernel
theorem dX1_fillPurges_41 : decode cX1_fillPurges 41 = .ok (.iinc 2 1, 3) := by decide +kernel
theorem dX1_fillPurges_44 : decode cX1_fillPurges 44 = .ok (.goto (-42), 3) := by decide +kernel
theorem dX1_fillPurges_47 : decode cX1_fillPurges 47 = .ok (.return_, 1) := by decide +kernel
theorem dX1_fillSums_0 : decode cX1_fillSums 0 = .ok (.aload_n 0, 1) := by decide +kernel
theorem dX1_fillSums_1 : decode cX1_fillSums 1 = .ok (.aload_n 1, 1) := by decide +kernel
theorem dX1_fillSums_2 : decode cX1_fillSums 2 = .ok (.invokevirtual 32, 3) := by decide +kernel
theorem dX1_fillSums_5 : decode cX1_fillSums 5 = .ok (.iconst 0, 1) := by decide +kernel
theorem dX1_fillSums_6 : decode cX1_fillSums 6 = .ok (.istore_n 3, 1) := by decide +kernel
theorem dX1_fillSums_7 : decode cX1_fillSums 7 = .ok (.iload_n 3, 1) := by decide +kernel
theorem dX1_fillSums_8 : decode cX1_fillSums 8 = .ok (.iload_n 2, 1) := by decide +kernel
theorem dX1_fillSums_9 : decode cX1_fillSums 9 = .ok (.if_icmp .gt 73, 3) := by decide +kernel
theorem dX1_fillSums_12 : decode cX1_fillSums 12 = .ok (.iload_n 3, 1) := by decide +kernel
theorem dX1_fillSums_13 : decode cX1_fillSums 13 = .ok (.bipush 64, 2) := by decide +kernel
theorem dX1_fillSums_15 : decode cX1_fillSums 15 = .ok (.if_icmp .ge 67, 3) := by decide +kernel
theorem dX1_fillSums_18 : decode cX1_fillSums 18 = .ok (.iconst 0, 1) := by decide +kernel
theorem dX1_fillSums_19 : decode cX1_fillSums 19 = .ok (.istore 4, 2) := by decide +kernel
theorem dX1_fillSums_21 : decode cX1_fillSums 21 = .ok (.iload 4, 2) := by decide +kernel
theorem dX1_fillSums_23 : decode cX1_fillSums 23 = .ok (.bipush 7, 2) := by decide +kernel
theorem dX1_fillSums_25 : decode cX1_fillSums 25 = .ok (.if_icmp .ge 51, 3) := by decide +kernel
theorem dX1_fillSums_28 : decode cX1_fillSums 28 = .ok (.iload_n 3, 1) := by decide +kernel
theorem dX1_fillSums_29 : decode cX1_fillSums 29 = .ok (.iload_n 2, 1) := by decide +kernel
theorem dX1_fillSums_30 : decode cX1_fillSums 30 = .ok (.iconst (-1), 1) := by decide +kernel
theorem dX1_fillSums_31 : decode cX1_fillSums 31 = .ok (.ixor, 1) := by decide +kernel
theorem dX1_fillSums_32 : decode cX1_fillSums 32 = .ok (.iand, 1) := by decide +kernel
theorem dX1_fillSums_33 : decode cX1_fillSums 33 = .ok (.ifCond .ne 43, 3) := by decide +kernel
theorem dX1_fillSums_36 : decode cX1_fillSums 36 = .ok (.aload_n 0, 1) := by decide +kernel
theorem dX1_fillSums_37 : decode cX1_fillSums 37 = .ok (.getfield 15, 3) := by decide +kernel
theorem dX1_fillSums_40 : decode cX1_fillSums 40 = .ok (.iload_n 3, 1) := by decide +kernel
theorem dX1_fillSums_41 : decode cX1_fillSums 41 = .ok (.bipush 7, 2) := by decide +kernel
theorem dX1_fillSums_43 : decode cX1_fillSums 43 = .ok (.imul, 1) := by decide +kernel
theorem dX1_fillSums_44 : decode cX1_fillSums 44 = .ok (.iload 4, 2) := by decide +kernel
theorem dX1_fillSums_46 : decode cX1_fillSums 46 = .ok (.iadd, 1) := by decide +kernel
theorem dX1_fillSums_47 : decode cX1_fillSums 47 = .ok (.iload_n 3, 1) := by decide +kernel
theorem dX1_fillSums_48 : decode cX1_fillSums 48 = .ok (.ifCond .ne 7, 3) := by decide +kernel
theorem dX1_fillSums_51 : decode cX1_fillSums 51 = .ok (.iconst 0, 1) := by decide +kernel
theorem dX1_fillSums_52 : decode cX1_fillSums 52 = .ok (.goto 17, 3) := by decide +kernel
theorem dX1_fillSums_55 : decode cX1_fillSums 55 = .ok (.aload_n 0, 1) := by decide +kernel
theorem dX1_fillSums_56 : decode cX1_fillSums 56 = .ok (.iload 4, 2) := by decide +kernel
theorem dX1_fillSums_58 : decode cX1_fillSums 58 = .ok (.aload_n 0, 1) := by decide +kernel
theorem dX1_fillSums_59 : decode cX1_fillSums 59 = .ok (.iload 4, 2) := by decide +kernel
theorem dX1_fillSums_61 : decode cX1_fillSums 61 = .ok (.iload_n 3, 1) := by decide +kernel
theorem dX1_fillSums_62 : decode cX1_fillSums 62 = .ok (.invokevirtual 40, 3) := by decide +kernel
theorem dX1_fillSums_65 : decode cX1_fillSums 65 = .ok (.iload_n 3, 1) := by decide +kernel
theorem dX1_fillSums_66 : decode cX1_fillSums 66 = .ok (.invokevirtual 45, 3) := by decide +kernel
theorem dX1_fillSums_69 : decode cX1_fillSums 69 = .ok (.iastore, 1) := by decide +kernel
theorem dX1_fillSums_70 : decode cX1_fillSums 70 = .ok (.iinc 4 1, 3) := by decide +kernel
theorem dX1_fillSums_73 : decode cX1_fillSums 73 = .ok (.goto (-52), 3) := by decide +kernel
theorem dX1_fillSums_76 : decode cX1_fillSums 76 = .ok (.iinc 3 1, 3) := by decide +kernel
theorem dX1_fillSums_79 : decode cX1_fillSums 79 = .ok (.goto (-72), 3) := by decide +kernel
theorem dX1_fillSums_82 : decode cX1_fillSums 82 = .ok (.return_, 1) := by decide +kernel
theorem dX1_tried_0 : decode cX1_tried 0 = .ok (.iload_n 2, 1) := by decide +kernel
theorem dX1_tried_1 : decode cX1_tried 1 = .ok (.ifCond .eq 9, 3) := by decide +kernel
theorem dX1_tried_4 : decode cX1_tried 4 = .ok (.iload_n 3, 1) := by decide +kernel
theorem dX1_tried_5 : decode cX1_tried 5 = .ok (.bipush 6, 2) := by decide +kernel
theorem dX1_tried_7 : decode cX1_tried 7 = .ok (.if_icmp .lt 5, 3) := by decide +kernel
theorem dX1_tried_10 : decode cX1_tried 10 = .ok (.iconst 0, 1) := by decide +kernel
theorem dX1_tried_11 : decode cX1_tried 11 = .ok (.ireturn, 1) := by decide +kernel
theorem dX1_tried_12 : decode cX1_tried 12 = .ok (.ldc 44, 2) := by decide +kernel
theorem dX1_tried_14 : decode cX1_tried 14 = .ok (.istore 4, 2) := by decide +kernel
theorem dX1_tried_16 : decode cX1_tried 16 = .ok (.iconst 0, 1) := by decide +kernel
theorem dX1_tried_17 : decode cX1_tried 17 = .ok (.istore 5, 2) := by decide +kernel
theorem dX1_tried_19 : decode cX1_tried 19 = .ok (.iload 5, 2) := by decide +kernel
theorem dX1_tried_21 : decode cX1_tried 21 = .ok (.bipush 6, 2) := by decide +kernel
theorem dX1_tried_23 : decode cX1_tried 23 = .ok (.if_icmp .ge 59, 3) := by decide +kernel
theorem dX1_tried_26 : decode cX1_tried 26 = .ok (.iload_n 2, 1) := by decide +kernel
theorem dX1_tried_27 : decode cX1_tried 27 = .ok (.iload 5, 2) := by decide +kernel
theorem dX1_tried_29 : decode cX1_tried 29 = .ok (.ishr, 1) := by decide +kernel
theorem dX1_tried_30 : decode cX1_tried 30 = .ok (.iconst 1, 1) := by decide +kernel
theorem dX1_tried_31 : decode cX1_tried 31 = .ok (.iand, 1) := by decide +kernel
theorem dX1_tried_32 : decode cX1_tried 32 = .ok (.iconst 1, 1) := by decide +kernel
theorem dX1_tried_33 : decode cX1_tried 33 = .ok (.if_icmp .ne 43, 3) := by decide +kernel
theorem dX1_tried_36 : decode cX1_tried 36 = .ok (.aload_n 0, 1) := by decide +kernel
theorem dX1_tried_37 : decode cX1_tried 37 = .ok (.iload 5, 2) := by decide +kernel
theorem dX1_tried_39 : decode cX1_tried 39 = .ok (.iconst 1, 1) := by decide +kernel
theorem dX1_tried_40 : decode cX1_tried 40 = .ok (.iadd, 1) := by decide +kernel
theorem dX1_tried_41 : decode cX1_tried 41 = .ok (.iload_n 2, 1) := by decide +kernel
theorem dX1_tried_42 : decode cX1_tried 42 = .ok (.iconst 1, 1) := by decide +kernel
theorem dX1_tried_43 : decode cX1_tried 43 = .ok (.iload 5, 2) := by decide +kernel
theorem dX1_tried_45 : decode cX1_tried 45 = .ok (.ishl, 1) := by decide +kernel
theorem dX1_tried_46 : decode cX1_tried 46 = .ok (.iconst (-1), 1) := by decide +kernel
theorem dX1_tried_47 : decode cX1_tried 47 = .ok (.ixor, 1) := by decide +kernel
theorem dX1_tried_48 : decode cX1_tried 48 = .ok (.iand, 1) := by decide +kernel
theorem dX1_tried_49 : decode cX1_tried 49 = .ok (.iload_n 3, 1) := by decide +kernel
theorem dX1_tried_50 : decode cX1_tried 50 = .ok (.iconst 1, 1) := by decide +kernel
theorem dX1_tried_51 : decode cX1_tried 51 = .ok (.iadd, 1) := by decide +kernel
theorem dX1_tried_52 : decode cX1_tried 52 = .ok (.invokestatic 36, 3) := by decide +kernel
theorem dX1_tried_55 : decode cX1_tried 55 = .ok (.istore 6, 2) := by decide +kernel
theorem dX1_tried_57 : decode cX1_tried 57 = .ok (.iload 4, 2) := by decide +kernel
theorem dX1_tried_59 : decode cX1_tried 59 = .ok (.aload_n 0, 1) := by decide +kernel
theorem dX1_tried_60 : decode cX1_tried 60 = .ok (.iload_n 1, 1) := by decide +kernel
theorem dX1_tried_61 : decode cX1_tried 61 = .ok (.bipush 6, 2) := by decide +kernel
theorem dX1_tried_63 : decode cX1_tried 63 = .ok (.imul, 1) := by decide +kernel
theorem dX1_tried_64 : decode cX1_tried 64 = .ok (.iload 5, 2) := by decide +kernel
theorem dX1_tried_66 : decode cX1_tried 66 = .ok (.iadd, 1) := by decide +kernel
theorem dX1_tried_67 : decode cX1_tried 67 = .ok (.iaload, 1) := by decide +kernel
theorem dX1_tried_68 : decode cX1_tried 68 = .ok (.iload 6, 2) := by decide +kernel
theorem dX1_tried_70 : decode cX1_tried 70 = .ok (.iadd, 1) := by decide +kernel
theorem dX1_tried_71 : decode cX1_tried 71 = .ok (.invokestatic 54, 3) := by decide +kernel
theorem dX1_tried_74 : decode cX1_tried 74 = .ok (.istore 4, 2) := by decide +kernel
theorem dX1_tried_76 : decode cX1_tried 76 = .ok (.iinc 5 1, 3) := by decide +kernel
theorem dX1_tried_79 : decode cX1_tried 79 = .ok (.goto (-60), 3) := by decide +kernel
theorem dX1_tried_82 : decode cX1_tried 82 = .ok (.iload 4, 2) := by decide +kernel
theorem dX1_tried_84 : decode cX1_tried 84 = .ok (.ireturn, 1) := by decide +kernel
theorem dX2_init_0 : decode cX2_init 0 = .ok (.aload_n 0, 1) := by decide +kernel
theorem dX2_init_1 : decode cX2_init 1 = .ok (.invokespecial 3, 3) := by decide +kernel
theorem dX2_init_4 : decode cX2_init 4 = .ok (.aload_n 0, 1) := by decide +kernel
theorem dX2_init_5 : decode cX2_init 5 = .ok (.iconst 3, 1) := by decide +kernel
theorem dX2_init_6 : decode cX2_init 6 = .ok (.newarray .int, 2) := by decide +kernel
theorem dX2_init_8 : decode cX2_init 8 = .ok (.dup, 1) := by decide +kernel
theorem dX2_init_9 : decode cX2_init 9 = .ok (.iconst 0, 1) := by decide +kernel
theorem dX2_init_10 : decode cX2_init 10 = .ok (.iconst (-1), 1) := by decide +kernel
theorem dX2_init_11 : decode cX2_init 11 = .ok (.iastore, 1) := by decide +kernel
theorem dX2_init_12 : decode cX2_init 12 = .ok (.dup, 1) := by decide +kernel
theorem dX2_init_13 : decode cX2_init 13 = .ok (.iconst 1, 1) := by decide +kernel
theorem dX2_init_14 : decode cX2_init 14 = .ok (.iconst (-1), 1) := by decide +kernel
theorem dX2_init_15 : decode cX2_init 15 = .ok (.iastore, 1) := by decide +kernel
theorem dX2_init_16 : decode cX2_init 16 = .ok (.dup, 1) := by decide +kernel
theorem dX2_init_17 : decode cX2_init 17 = .ok (.iconst 2, 1) := by decide +kernel
theorem dX2_init_18 : decode cX2_init 18 = .ok (.iconst (-1), 1) := by decide +kernel
theorem dX2_init_19 : decode cX2_init 19 = .ok (.iastore, 1) := by decide +kernel
theorem dX2_init_20 : decode cX2_init 20 = .ok (.putfield 9, 3) := by decide +kernel
theorem dX2_init_23 : decode cX2_init 23 = .ok (.aload_n 0, 1) := by decide +kernel
theorem dX2_init_24 : decode cX2_init 24 = .ok (.iconst 3, 1) := by decide +kernel
theorem dX2_init_25 : decode cX2_init 25 = .ok (.newarray .int, 2) := by decide +kernel
theorem dX2_init_27 : decode cX2_init 27 = .ok (.putfield 15, 3) := by decide +kernel
theorem dX2_init_30 : decode cX2_init 30 = .ok (.aload_n 0, 1) := by decide +kernel
theorem dX2_init_31 : decode cX2_init 31 = .ok (.iconst 3, 1) := by decide +kernel
theorem dX2_init_32 : decode cX2_init 32 = .ok (.newarray .int, 2) := by decide +kernel
theorem dX2_init_34 : decode cX2_init 34 = .ok (.putfield 18, 3) := by decide +kernel
theorem dX2_init_37 : decode cX2_init 37 = .ok (.return_, 1) := by decide +kernel
theorem dX2_copyFrom_0 : decode cX2_copyFrom 0 = .ok (.aload_n 1, 1) := by decide +kernel
theorem dX2_copyFrom_1 : decode cX2_copyFrom 1 = .ok (.getfield 9, 3) := by decide +kernel
theorem dX2_copyFrom_4 : decode cX2_copyFrom 4 = .ok (.aload_n 0, 1) := by decide +kernel
theorem dX2_copyFrom_5 : decode cX2_copyFrom 5 = .ok (.getfield 9, 3) := by decide +kernel
theorem dX2_copyFrom_8 : decode cX2_copyFrom 8 = .ok (.invokestatic 21, 3) := by decide +kernel
theorem dX2_copyFrom_11 : decode cX2_copyFrom 11 = .ok (.aload_n 1, 1) := by decide +kernel
theorem dX2_copyFrom_12 : decode cX2_copyFrom 12 = .ok (.getfield 15, 3) := by decide +kernel
theorem dX2_copyFrom_15 : decode cX2_copyFrom 15 = .ok (.aload_n 0, 1) := by decide +kernel
theorem dX2_copyFrom_16 : decode cX2_copyFrom 16 = .ok (.getfield 15, 3) := by decide +kernel
theorem dX2_copyFrom_19 : decode cX2_copyFrom 19 = .ok (.invokestatic 21, 3) := by decide +kernel
theorem dX2_copyFrom_22 : decode cX2_copyFrom 22 = .ok (.aload_n 1, 1) := by decide +kernel
theorem dX2_copyFrom_23 : decode cX2_copyFrom 23 = .ok (.getfield 18, 3) := by decide +kernel
theorem dX2_copyFrom_26 : decode cX2_copyFrom 26 = .ok (.aload_n 0, 1) := by decide +kernel
theorem dX2_copyFrom_27 : decode cX2_copyFrom 27 = .ok (.getfield 18, 3) := by decide +kernel
theorem dX2_copyFrom_30 : decode cX2_copyFrom 30 = .ok (.invokestatic 21, 3) := by decide +kernel
theorem dX2_copyFrom_33 : decode cX2_copyFrom 33 = .ok (.return_, 1) := by decide +kernel
theorem dX2_fill_0 : decode cX2_fill 0 = .ok (.iload_n 3, 1) := by decide +kernel
theorem dX2_fill_1 : decode cX2_fill 1 = .ok (.iconst 1, 1) := by decide +kernel
theorem dX2_fill_2 : decode cX2_fill 2 = .ok (.ldc 25, 2) := by decide +kernel
theorem dX2_fill_4 : decode cX2_fill 4 = .ok (.invokestatic 26, 3) := by decide +kernel
theorem dX2_fill_7 : decode cX2_fill 7 = .ok (.ifCond .ne 11, 3) := by decide +kernel
theorem dX2_fill_10 : decode cX2_fill 10 = .ok (.aload 4, 2) := by decide +kernel
theorem dX2_fill_12 : decode cX2_fill 12 = .ok (.iconst 2, 1) := by decide +kernel
theorem dX2_fill_13 : decode cX2_fill 13 = .ok (.iconst 0, 1) := by decide +kernel
theorem dX2_fill_14 : decode cX2_fill 14 = .ok (.invokevirtual 30, 3) := by decide +kernel
theorem dX2_fill_17 : decode cX2_fill 17 = .ok (.ireturn, 1) := by decide +kernel
theorem dX2_fill_18 : decode cX2_fill 18 = .ok (.aload_n 0, 1) := by decide +kernel
theorem dX2_fill_19 : decode cX2_fill 19 = .ok (.getfield 9, 3) := by decide +kernel
theorem dX2_fill_22 : decode cX2_fill 22 = .ok (.iload_n 1, 1) := by decide +kernel
theorem dX2_fill_23 : decode cX2_fill 23 = .ok (.iaload, 1) := by decide +kernel
theorem dX2_fill_24 : decode cX2_fill 24 = .ok (.iconst (-1), 1) := by decide +kernel
theorem dX2_fill_25 : decode cX2_fill 25 = .ok (.if_icmp .eq 27, 3) := by decide +kernel
theorem dX2_fill_28 : decode cX2_fill 28 = .ok (.aload_n 0, 1) := by decide +kernel
theorem dX2_fill_29 : decode cX2_fill 29 = .ok (.getfield 9, 3) := by decide +kernel
theorem dX2_fill_32 : decode cX2_fill 32 = .ok (.iload_n 1, 1) := by decide +kernel
theorem dX2_fill_33 : decode cX2_fill 33 = .ok (.iaload, 1) := by decide +kernel
theorem dX2_fill_34 : decode cX2_fill 34 = .ok (.iload_n 2, 1) := by decide +kernel
theorem dX2_fill_35 : decode cX2_fill 35 = .ok (.if_icmp .eq 17, 3) := by decide +kernel
theorem dX2_fill_38 : decode cX2_fill 38 = .ok (.aload 4, 2) := by decide +kernel
theorem dX2_fill_40 : decode cX2_fill 40 = .ok (.bipush 6, 2) := by decide +kernel
theorem dX2_fill_42 : decode cX2_fill 42 = .ok (.aload_n 0, 1) := by decide +kernel
theorem dX2_fill_43 : decode cX2_fill 43 = .ok (.getfield 9, 3) := by decide +kernel
theorem dX2_fill_46 : decode cX2_fill 46 = .ok (.iload_n 1, 1) := by decide +kernel
theorem dX2_fill_47 : decode cX2_fill 47 = .ok (.iaload, 1) := by decide +kernel
theorem dX2_fill_48 : decode cX2_fill 48 = .ok (.invokevirtual 30, 3) := by decide +kernel
theorem dX2_fill_51 : decode cX2_fill 51 = .ok (.ireturn, 1) := by decide +kernel
theorem dX2_fill_52 : decode cX2_fill 52 = .ok (.aload_n 0, 1) := by decide +kernel
theorem dX2_fill_53 : decode cX2_fill 53 = .ok (.getfield 15, 3) := by decide +kernel
theorem dX2_fill_56 : decode cX2_fill 56 = .ok (.iload_n 1, 1) := by decide +kernel
theorem dX2_fill_57 : decode cX2_fill 57 = .ok (.iaload, 1) := by decide +kernel
theorem dX2_fill_58 : decode cX2_fill 58 = .ok (.iload_n 3, 1) := by decide +kernel
theorem dX2_fill_59 : decode cX2_fill 59 = .ok (.iadd, 1) := by decide +kernel
theorem dX2_fill_60 : decode cX2_fill 60 = .ok (.ldc 25, 2) := by decide +kernel
theorem dX2_fill_62 : decode cX2_fill 62 = .ok (.if_icmp .le 12, 3) := by decide +kernel
theorem dX2_fill_65 : decode cX2_fill 65 = .ok (.aload 4, 2) := by decide +kernel
theorem dX2_fill_67 : decode cX2_fill 67 = .ok (.bipush 7, 2) := by decide +kernel
theorem dX2_fill_69 : decode cX2_fill 69 = .ok (.iconst 0, 1) := by decide +kernel
theorem dX2_fill_70 : decode cX2_fill 70 = .ok (.invokevirtual 30, 3) := by decide +kernel
theorem dX2_fill_73 : decode cX2_fill 73 = .ok (.ireturn, 1) := by decide +kernel
theorem dX2_fill_74 : decode cX2_fill 74 = .ok (.aload_n 0, 1) := by decide +kernel
theorem dX2_fill_75 : decode cX2_fill 75 = .ok (.getfield 9, 3) := by decide +kernel
theorem dX2_fill_78 : decode cX2_fill 78 = .ok (.iload_n 1, 1) := by decide +kernel
theorem dX2_fill_79 : decode cX2_fill 79 = .ok (.iload_n 2, 1) := by decide +kernel
theorem dX2_fill_80 : decode cX2_fill 80 = .ok (.iastore, 1) := by decide +kernel
theorem dX2_fill_81 : decode cX2_fill 81 = .ok (.aload_n 0, 1) := by decide +kernel
theorem dX2_fill_82 : decode cX2_fill 82 = .ok (.getfield 15, 3) := by decide +kernel
theorem dX2_fill_85 : decode cX2_fill 85 = .ok (.iload_n 1, 1) := by decide +kernel
theorem dX2_fill_86 : decode cX2_fill 86 = .ok (.dup2, 1) := by decide +kernel
theorem dX2_fill_87 : decode cX2_fill 87 = .ok (.iaload, 1) := by decide +kernel
theorem dX2_fill_88 : decode cX2_fill 88 = .ok (.iload_n 3, 1) := by decide +kernel
theorem dX2_fill_89 : decode cX2_fill 89 = .ok (.iadd, 1) := by decide +kernel
theorem dX2_fill_90 : decode cX2_fill 90 = .ok (.iastore, 1) := by decide +kernel
theorem dX2_fill_91 : decode cX2_fill 91 = .ok (.aload_n 0, 1) := by decide +kernel
theorem dX2_fill_92 : decode cX2_fill 92 = .ok (.getfield 18, 3) := by decide +kernel
theorem dX2_fill_95 : decode cX2_fill 95 = .ok (.iload_n 1, 1) := by decide +kernel
theorem dX2_fill_96 : decode cX2_fill 96 = .ok (.iconst 0, 1) := by decide +kernel
theorem dX2_fill_97 : decode cX2_fill 97 = .ok (.iastore, 1) := by decide +kernel
theorem dX2_fill_98 : decode cX2_fill 98 = .ok (.aload_n 0, 1) := by decide +kernel
theorem dX2_fill_99 : decode cX2_fill 99 = .ok (.getfield 15, 3) := by decide +kernel
theorem dX2_fill_102 : decode cX2_fill 102 = .ok (.iload_n 1, 1) := by decide +kernel
theorem dX2_fill_103 : decode cX2_fill 103 = .ok (.iaload, 1) := by decide +kernel
theorem dX2_fill_104 : decode cX2_fill 104 = .ok (.ireturn, 1) := by decide +kernel
theorem dX2_takeAll_0 : decode cX2_takeAll 0 = .ok (.iload_n 1, 1) := by decide +kernel
theorem dX2_takeAll_1 : decode cX2_takeAll 1 = .ok (.iconst 0, 1) := by decide +kernel
theorem dX2_takeAll_2 : decode cX2_takeAll 2 = .ok (.iconst 2, 1) := by decide +kernel
theorem dX2_takeAll_3 : decode cX2_takeAll 3 = .ok (.invokestatic 26, 3) := by decide +kernel
theorem dX2_takeAll_6 : decode cX2_takeAll 6 = .ok (.ifCond .ne 10, 3) := by decide +kernel
theorem dX2_takeAll_9 : decode cX2_takeAll 9 = .ok (.aload_n 2, 1) := by decide +kernel
theorem dX2_takeAll_10 : decode cX2_takeAll 10 = .ok (.iconst 1, 1) := by decide +kernel
theorem dX2_takeAll_11 : decode cX2_takeAll 11 = .ok (.iconst 0, 1) := by decide +kernel
theorem dX2_takeAll_12 : decode cX2_takeAll 12 = .ok (.invokevirtual 30, 3) := by decide +kernel
theorem dX2_takeAll_15 : decode cX2_takeAll 15 = .ok (.ireturn, 1) := by decide +kernel
theorem dX2_takeAll_16 : decode cX2_takeAll 16 = .ok (.aload_n 0, 1) := by decide +kernel
theorem dX2_takeAll_17 : decode cX2_takeAll 17 = .ok (.getfield 9, 3) := by decide +kernel
theorem dX2_takeAll_20 : decode cX2_takeAll 20 = .ok (.iload_n 1, 1) := by decide +kernel
theorem dX2_takeAll_21 : decode cX2_takeAll 21 = .ok (.iaload, 1) := by decide +kernel
theorem dX2_takeAll_22 : decode cX2_takeAll 22 = .ok (.iconst (-1), 1) := by decide +kernel
theorem dX2_takeAll_23 : decode cX2_takeAll 23 = .ok (.if_icmp .ne 11, 3) := by decide +kernel
theorem dX2_takeAll_26 : decode cX2_takeAll 26 = .ok (.aload_n 2, 1) := by decide +kernel
theorem dX2_takeAll_27 : decode cX2_takeAll 27 = .ok (.bipush 8, 2) := by decide +kernel
theorem dX2_takeAll_29 : decode cX2_takeAll 29 = .ok (.iconst 0, 1) := by decide +kernel
theorem dX2_takeAll_30 : decode cX2_takeAll 30 = .ok (.invokevirtual 30, 3) := by decide +kernel
theorem dX2_takeAll_33 : decode cX2_takeAll 33 = .ok (.ireturn, 1) := by decide +kernel
theorem dX2_takeAll_34 : decode cX2_takeAll 34 = .ok (.aload_n 0, 1) := by decide +kernel
theorem dX2_takeAll_35 : decode cX2_takeAll 35 = .ok (.getfield 15, 3) := by decide +kernel
theorem dX2_takeAll_38 : decode cX2_takeAll 38 = .ok (.iload_n 1, 1) := by decide +kernel
theorem dX2_takeAll_39 : decode cX2_takeAll 39 = .ok (.iaload, 1) := by decide +kernel
theorem dX2_takeAll_40 : decode cX2_takeAll 40 = .ok (.istore_n 3, 1) := by decide +kernel
theorem dX2_takeAll_41 : decode cX2_takeAll 41 = .ok (.aload_n 0, 1) := by decide +kernel
theorem dX2_takeAll_42 : decode cX2_takeAll 42 = .ok (.iload_n 1, 1) := by decide +kernel
theorem dX2_takeAll_43 : decode cX2_takeAll 43 = .ok (.iload_n 3, 1) := by decide +kernel
theorem dX2_takeAll_44 : decode cX2_takeAll 44 = .ok (.invokevirtual 36, 3) := by decide +kernel
theorem dX2_takeAll_47 : decode cX2_takeAll 47 = .ok (.iload_n 3, 1) := by decide +kernel
theorem dX2_takeAll_48 : decode cX2_takeAll 48 = .ok (.ireturn, 1) := by decide +kernel
theorem dX2_take_0 : decode cX2_take 0 = .ok (.aload_n 0, 1) := by decide +kernel
theorem dX2_take_1 : decode cX2_take 1 = .ok (.getfield 15, 3) := by decide +kernel
theorem dX2_take_4 : decode cX2_take 4 = .ok (.iload_n 1, 1) := by decide +kernel
theorem dX2_take_5 : decode cX2_take 5 = .ok (.dup2, 1) := by decide +kernel
theorem dX2_take_6 : decode cX2_take 6 = .ok (.iaload, 1) := by decide +kernel
theorem dX2_take_7 : decode cX2_take 7 = .ok (.iload_n 2, 1) := by decide +kernel
theorem dX2_take_8 : decode cX2_take 8 = .ok (.isub, 1) := by decide +kernel
theorem dX2_take_9 : decode cX2_take 9 = .ok (.iastore, 1) := by decide +kernel
theorem dX2_take_10 : decode cX2_take 10 = .ok (.aload_n 0, 1) := by decide +kernel
theorem dX2_take_11 : decode cX2_take 11 = .ok (.getfield 15, 3) := by decide +kernel
theorem dX2_take_14 : decode cX2_take 14 = .ok (.iload_n 1, 1) := by decide +kernel
theorem dX2_take_15 : decode cX2_take 15 = .ok (.iaload, 1) := by decide +kernel
theorem dX2_take_16 : decode cX2_take 16 = .ok (.ifCond .ne 17, 3) := by decide +kernel
theorem dX2_take_19 : decode cX2_take 19 = .ok (.aload_n 0, 1) := by decide +kernel
theorem dX2_take_20 : decode cX2_take 20 = .ok (.getfield 9, 3) := by decide +kernel
theorem dX2_take_23 : decode cX2_take 23 = .ok (.iload_n 1, 1) := by decide +kernel
theorem dX2_take_24 : decode cX2_take 24 = .ok (.iconst (-1), 1) := by decide +kernel
theorem dX2_take_25 : decode cX2_take 25 = .ok (.iastore, 1) := by decide +kernel
theorem dX2_take_26 : decode cX2_take 26 = .ok (.aload_n 0, 1) := by decide +kernel
theorem dX2_take_27 : decode cX2_take 27 = .ok (.getfield 18, 3) := by decide +kernel
theorem dX2_take_30 : decode cX2_take 30 = .ok (.iload_n 1, 1) := by decide +kernel
theorem dX2_take_31 : decode cX2_take 31 = .ok (.iconst 0, 1) := by decide +kernel
theorem dX2_take_32 : decode cX2_take 32 = .ok (.iastore, 1) := by decide +kernel
theorem dX2_take_33 : decode cX2_take 33 = .ok (.return_, 1) := by decide +kernel
theorem dX2_dry_0 : decode cX2_dry 0 = .ok (.iconst 0, 1) := by decide +kernel
theorem dX2_dry_1 : decode cX2_dry 1 = .ok (.istore_n 2, 1) := by decide +kernel
theorem dX2_dry_2 : decode cX2_dry 2 = .ok (.iload_n 2, 1) := by decide +kernel
theorem dX2_dry_3 : decode cX2_dry 3 = .ok (.iconst 3, 1) := by decide +kernel
theorem dX2_dry_4 : decode cX2_dry 4 = .ok (.if_icmp .ge 33, 3) := by decide +kernel
theorem dX2_dry_7 : decode cX2_dry 7 = .ok (.aload_n 0, 1) := by decide +kernel
theorem dX2_dry_8 : decode cX2_dry 8 = .ok (.getfield 18, 3) := by decide +kernel
theorem dX2_dry_11 : decode cX2_dry 11 = .ok (.iload_n 2, 1) := by decide +kernel
theorem dX2_dry_12 : decode cX2_dry 12 = .ok (.dup2, 1) := by decide +kernel
theorem dX2_dry_13 : decode cX2_dry 13 = .ok (.iaload, 1) := by decide +kernel
theorem dX2_dry_14 : decode cX2_dry 14 = .ok (.aload_n 0, 1) := by decide +kernel
theorem dX2_dry_15 : decode cX2_dry 15 = .ok (.getfield 9, 3) := by decide +kernel
theorem dX2_dry_18 : decode cX2_dry 18 = .ok (.iload_n 2, 1) := by decide +kernel
theorem dX2_dry_19 : decode cX2_dry 19 = .ok (.iaload, 1) := by decide +kernel
theorem dX2_dry_20 : decode cX2_dry 20 = .ok (.iconst (-1), 1) := by decide +kernel
theorem dX2_dry_21 : decode cX2_dry 21 = .ok (.if_icmp .ne 7, 3) := by decide +kernel
theorem dX2_dry_24 : decode cX2_dry 24 = .ok (.iconst 0, 1) := by decide +kernel
theorem dX2_dry_25 : decode cX2_dry 25 = .ok (.goto 4, 3) := by decide +kernel
theorem dX2_dry_28 : decode cX2_dry 28 = .ok (.iload_n 1, 1) := by decide +kernel
theorem dX2_dry_29 : decode cX2_dry 29 = .ok (.iadd, 1) := by decide +kernel
theorem dX2_dry_30 : decode cX2_dry 30 = .ok (.iastore, 1) := by decide +kernel
theorem dX2_dry_31 : decode cX2_dry 31 = .ok (.iinc 2 1, 3) := by decide +kernel
theorem dX2_dry_34 : decode cX2_dry 34 = .ok (.goto (-32), 3) := by decide +kernel
theorem dX2_dry_37 : decode cX2_dry 37 = .ok (.return_, 1) := by decide +kernel
theorem dX2_lackingMinutes_0 : decode cX2_lackingMinutes 0 = .ok (.aload_n 0, 1) := by decide +kernel
theorem dX2_lackingMinutes_1 : decode cX2_lackingMinutes 1 = .ok (.getfield 9, 3) := by decide +kernel
theorem dX2_lackingMinutes_4 : decode cX2_lackingMinutes 4 = .ok (.iload_n 1, 1) := by decide +kernel
theorem dX2_lackingMinutes_5 : decode cX2_lackingMinutes 5 = .ok (.iaload, 1) := by decide +kernel
theorem dX2_lackingMinutes_6 : decode cX2_lackingMinutes 6 = .ok (.iconst (-1), 1) := by decide +kernel
theorem dX2_lackingMinutes_7 : decode cX2_lackingMinutes 7 = .ok (.if_icmp .ne 7, 3) := by decide +kernel
theorem dX2_lackingMinutes_10 : decode cX2_lackingMinutes 10 = .ok (.iconst 0, 1) := by decide +kernel
theorem dX2_lackingMinutes_11 : decode cX2_lackingMinutes 11 = .ok (.goto 15, 3) := by decide +kernel
theorem dX2_lackingMinutes_14 : decode cX2_lackingMinutes 14 = .ok (.iconst 0, 1) := by decide +kernel
theorem dX2_lackingMinutes_15 : decode cX2_lackingMinutes 15 = .ok (.iload_n 2, 1) := by decide +kernel
theorem dX2_lackingMinutes_16 : decode cX2_lackingMinutes 16 = .ok (.aload_n 0, 1) := by decide +kernel
theorem dX2_lackingMinutes_17 : decode cX2_lackingMinutes 17 = .ok (.getfield 18, 3) := by decide +kernel
theorem dX2_lackingMinutes_20 : decode cX2_lackingMinutes 20 = .ok (.iload_n 1, 1) := by decide +kernel
theorem dX2_lackingMinutes_21 : decode cX2_lackingMinutes 21 = .ok (.iaload, 1) := by decide +kernel
theorem dX2_lackingMinutes_22 : decode cX2_lackingMinutes 22 = .ok (.isub, 1) := by decide +kernel
theorem dX2_lackingMinutes_23 : decode cX2_lackingMinutes 23 = .ok (.invokestatic 40, 3) := by decide +kernel
theorem dX2_lackingMinutes_26 : decode cX2_lackingMinutes 26 = .ok (.ireturn, 1) := by decide +kernel
theorem dX2_lowestWith_0 : decode cX2_lowestWith 0 = .ok (.iconst 0, 1) := by decide +kernel
theorem dX2_lowestWith_1 : decode cX2_lowestWith 1 = .ok (.istore_n 2, 1) := by decide +kernel
theorem dX2_lowestWith_2 : decode cX2_lowestWith 2 = .ok (.iload_n 2, 1) := by decide +kernel
theorem dX2_lowestWith_3 : decode cX2_lowestWith 3 = .ok (.iconst 3, 1) := by decide +kernel
theorem dX2_lowestWith_4 : decode cX2_lowestWith 4 = .ok (.if_icmp .ge 21, 3) := by decide +kernel
theorem dX2_lowestWith_7 : decode cX2_lowestWith 7 = .ok (.aload_n 0, 1) := by decide +kernel
theorem dX2_lowestWith_8 : decode cX2_lowestWith 8 = .ok (.getfield 9, 3) := by decide +kernel
theorem dX2_lowestWith_11 : decode cX2_lowestWith 11 = .ok (.iload_n 2, 1) := by decide +kernel
theorem dX2_lowestWith_12 : decode cX2_lowestWith 12 = .ok (.iaload, 1) := by decide +kernel
theorem dX2_lowestWith_13 : decode cX2_lowestWith 13 = .ok (.iload_n 1, 1) := by decide +kernel
theorem dX2_lowestWith_14 : decode cX2_lowestWith 14 = .ok (.if_icmp .ne 5, 3) := by decide +kernel
theorem dX2_lowestWith_17 : decode cX2_lowestWith 17 = .ok (.iload_n 2, 1) := by decide +kernel
theorem dX2_lowestWith_18 : decode cX2_lowestWith 18 = .ok (.ireturn, 1) := by decide +kernel
theorem dX2_lowestWith_19 : decode cX2_lowestWith 19 = .ok (.iinc 2 1, 3) := by decide +kernel
theorem dX2_lowestWith_22 : decode cX2_lowestWith 22 = .ok (.goto (-20), 3) := by decide +kernel
theorem dX2_lowestWith_25 : decode cX2_lowestWith 25 = .ok (.iconst (-1), 1) := by decide +kernel
theorem dX2_lowestWith_26 : decode cX2_lowestWith 26 = .ok (.ireturn, 1) := by decide +kernel
theorem dX2_lowestUsable_0 : decode cX2_lowestUsable 0 = .ok (.iconst 0, 1) := by decide +kernel
theorem dX2_lowestUsable_1 : decode cX2_lowestUsable 1 = .ok (.istore 4, 2) := by decide +kernel
theorem dX2_lowestUsable_3 : decode cX2_lowestUsable 3 = .ok (.iload 4, 2) := by decide +kernel
theorem dX2_lowestUsable_5 : decode cX2_lowestUsable 5 = .ok (.iconst 3, 1) := by decide +kernel
theorem dX2_lowestUsable_6 : decode cX2_lowestUsable 6 = .ok (.if_icmp .ge 45, 3) := by decide +kernel
theorem dX2_lowestUsable_9 : decode cX2_lowestUsable 9 = .ok (.aload_n 0, 1) := by decide +kernel
theorem dX2_lowestUsable_10 : decode cX2_lowestUsable 10 = .ok (.getfield 9, 3) := by decide +kernel
theorem dX2_lowestUsable_13 : decode cX2_lowestUsable 13 = .ok (.iload 4, 2) := by decide +kernel
theorem dX2_lowestUsable_15 : decode cX2_lowestUsable 15 = .ok (.iaload, 1) := by decide +kernel
theorem dX2_lowestUsable_16 : decode cX2_lowestUsable 16 = .ok (.iload_n 1, 1) := by decide +kernel
theorem dX2_lowestUsable_17 : decode cX2_lowestUsable 17 = .ok (.if_icmp .ne 28, 3) := by decide +kernel
theorem dX2_lowestUsable_20 : decode cX2_lowestUsable 20 = .ok (.aload_n 0, 1) := by decide +kernel
theorem dX2_lowestUsable_21 : decode cX2_lowestUsable 21 = .ok (.getfield 18, 3) := by decide +kernel
theorem dX2_lowestUsable_24 : decode cX2_lowestUsable 24 = .ok (.iload 4, 2) := by decide +kernel
theorem dX2_lowestUsable_26 : decode cX2_lowestUsable 26 = .ok (.iaload, 1) := by decide +kernel
theorem dX2_lowestUsable_27 : decode cX2_lowestUsable 27 = .ok (.iload_n 3, 1) := by decide +kernel
theorem dX2_lowestUsable_28 : decode cX2_lowestUsable 28 = .ok (.if_icmp .lt 17, 3) := by decide +kernel
theorem dX2_lowestUsable_31 : decode cX2_lowestUsable 31 = .ok (.aload_n 0, 1) := by decide +kernel
theorem dX2_lowestUsable_32 : decode cX2_lowestUsable 32 = .ok (.getfield 15, 3) := by decide +kernel
theorem dX2_lowestUsable_35 : decode cX2_lowestUsable 35 = .ok (.iload 4, 2) := by decide +kernel
theorem dX2_lowestUsable_37 : decode cX2_lowestUsable 37 = .ok (.iaload, 1) := by decide +kernel
theorem dX2_lowestUsable_38 : decode cX2_lowestUsable 38 = .ok (.iload_n 2, 1) := by decide +kernel
theorem dX2_lowestUsable_39 : decode cX2_lowestUsable 39 = .ok (.if_icmp .lt 6, 3) := by decide +kernel
theorem dX2_lowestUsable_42 : decode cX2_lowestUsable 42 = .ok (.iload 4, 2) := by decide +kernel
theorem dX2_lowestUsable_44 : decode cX2_lowestUsable 44 = .ok (.ireturn, 1) := by decide +kernel
theorem dX2_lowestUsable_45 : decode cX2_lowestUsable 45 = .ok (.iinc 4 1, 3) := by decide +kernel
theorem dX2_lowestUsable_48 : decode cX2_lowestUsable 48 = .ok (.goto (-45), 3) := by decide +kernel
theorem dX2_lowestUsable_51 : decode cX2_lowestUsable 51 = .ok (.iconst (-1), 1) := by decide +kernel
theorem dX2_lowestUsable_52 : decode cX2_lowestUsable 52 = .ok (.ireturn, 1) := by decide +kernel
theorem dX2_allGrams_0 : decode cX2_allGrams 0 = .ok (.iconst 0, 1) := by decide +kernel
theorem dX2_allGrams_1 : decode cX2_allGrams 1 = .ok (.istore_n 1, 1) := by decide +kernel
theorem dX2_allGrams_2 : decode cX2_allGrams 2 = .ok (.iconst 0, 1) := by decide +kernel
theorem dX2_allGrams_3 : decode cX2_allGrams 3 = .ok (.istore_n 2, 1) := by decide +kernel
theorem dX2_allGrams_4 : decode cX2_allGrams 4 = .ok (.iload_n 2, 1) := by decide +kernel
theorem dX2_allGrams_5 : decode cX2_allGrams 5 = .ok (.iconst 3, 1) := by decide +kernel
theorem dX2_allGrams_6 : decode cX2_allGrams 6 = .ok (.if_icmp .ge 18, 3) := by decide +kernel
theorem dX2_allGrams_9 : decode cX2_allGrams 9 = .ok (.iload_n 1, 1) := by decide +kernel
theorem dX2_allGrams_10 : decode cX2_allGrams 10 = .ok (.aload_n 0, 1) := by decide +kernel
theorem dX2_allGrams_11 : decode cX2_allGrams 11 = .ok (.getfield 15, 3) := by decide +kernel
theorem dX2_allGrams_14 : decode cX2_allGrams 14 = .ok (.iload_n 2, 1) := by decide +kernel
theorem dX2_allGrams_15 : decode cX2_allGrams 15 = .ok (.iaload, 1) := by decide +kernel
theorem dX2_allGrams_16 : decode cX2_allGrams 16 = .ok (.iadd, 1) := by decide +kernel
theorem dX2_allGrams_17 : decode cX2_allGrams 17 = .ok (.istore_n 1, 1) := by decide +kernel
theorem dX2_allGrams_18 : decode cX2_allGrams 18 = .ok (.iinc 2 1, 3) := by decide +kernel
theorem dX2_allGrams_21 : decode cX2_allGrams 21 = .ok (.goto (-17), 3) := by decide +kernel
theorem dX2_allGrams_24 : decode cX2_allGrams 24 = .ok (.iload_n 1, 1) := by decide +kernel
theorem dX2_allGrams_25 : decode cX2_allGrams 25 = .ok (.ireturn, 1) := by decide +kernel
theorem dX3_init_0 : decode cX3_init 0 = .ok (.aload_n 0, 1) := by decide +kernel
theorem dX3_init_1 : decode cX3_init 1 = .ok (.invokespecial 3, 3) := by decide +kernel
theorem dX3_init_4 : decode cX3_init 4 = .ok (.aload_n 0, 1) := by decide +kernel
theorem dX3_init_5 : decode cX3_init 5 = .ok (.iconst 3, 1) := by decide +kernel
theorem dX3_init_6 : decode cX3_init 6 = .ok (.newarray .int, 2) := by decide +kernel
theorem dX3_init_8 : decode cX3_init 8 = .ok (.putfield 9, 3) := by decide +kernel
theorem dX3_init_11 : decode cX3_init 11 = .ok (.aload_n 0, 1) := by decide +kernel
theorem dX3_init_12 : decode cX3_init 12 = .ok (.iconst 3, 1) := by decide +kernel
theorem dX3_init_13 : decode cX3_init 13 = .ok (.newarray .int, 2) := by decide +kernel
theorem dX3_init_15 : decode cX3_init 15 = .ok (.putfield 15, 3) := by decide +kernel
theorem dX3_init_18 : decode cX3_init 18 = .ok (.return_, 1) := by decide +kernel
theorem dX3_isReadFrom_0 : decode cX3_isReadFrom 0 = .ok (.aload_n 1, 1) := by decide +kernel
theorem dX3_isReadFrom_1 : decode cX3_isReadFrom 1 = .ok (.invokevirtual 18, 3) := by decide +kernel
theorem dX3_isReadFrom_4 : decode cX3_isReadFrom 4 = .ok (.aload_n 1, 1) := by decide +kernel
theorem dX3_isReadFrom_5 : decode cX3_isReadFrom 5 = .ok (.aload_n 0, 1) := by decide +kernel
theorem dX3_isReadFrom_6 : decode cX3_isReadFrom 6 = .ok (.aload_n 1, 1) := by decide +kernel
theorem dX3_isReadFrom_7 : decode cX3_isReadFrom 7 = .ok (.invokevirtual 23, 3) := by decide +kernel
theorem dX3_isReadFrom_10 : decode cX3_isReadFrom 10 = .ok (.ifCond .eq 23, 3) := by decide +kernel
theorem dX3_isReadFrom_13 : decode cX3_isReadFrom 13 = .ok (.aload_n 0, 1) := by decide +kernel
theorem dX3_isReadFrom_14 : decode cX3_isReadFrom 14 = .ok (.aload_n 1, 1) := by decide +kernel
theorem dX3_isReadFrom_15 : decode cX3_isReadFrom 15 = .ok (.invokevirtual 27, 3) := by decide +kernel
theorem dX3_isReadFrom_18 : decode cX3_isReadFrom 18 = .ok (.ifCond .eq 15, 3) := by decide +kernel
theorem dX3_isReadFrom_21 : decode cX3_isReadFrom 21 = .ok (.aload_n 0, 1) := by decide +kernel
theorem dX3_isReadFrom_22 : decode cX3_isReadFrom 22 = .ok (.aload_n 1, 1) := by decide +kernel
theorem dX3_isReadFrom_23 : decode cX3_isReadFrom 23 = .ok (.invokevirtual 30, 3) := by decide +kernel
theorem dX3_isReadFrom_26 : decode cX3_isReadFrom 26 = .ok (.ifCond .eq 7, 3) := by decide +kernel
theorem dX3_isReadFrom_29 : decode cX3_isReadFrom 29 = .ok (.iconst 1, 1) := by decide +kernel
theorem dX3_isReadFrom_30 : decode cX3_isReadFrom 30 = .ok (.goto 4, 3) := by decide +kernel
theorem dX3_isReadFrom_33 : decode cX3_isReadFrom 33 = .ok (.iconst 0, 1) := by decide +kernel
theorem dX3_isReadFrom_34 : decode cX3_isReadFrom 34 = .ok (.invokevirtual 33, 3) := by decide +kernel
theorem dX3_isReadFrom_37 : decode cX3_isReadFrom 37 = .ok (.ireturn, 1) := by decide +kernel
theorem dX3_isHeadRead_0 : decode cX3_isHeadRead 0 = .ok (.aload_n 0, 1) := by decide +kernel
theorem dX3_isHeadRead_1 : decode cX3_isHeadRead 1 = .ok (.iconst 0, 1) := by decide +kernel
theorem dX3_isHeadRead_2 : decode cX3_isHeadRead 2 = .ok (.putfield 37, 3) := by decide +kernel
theorem dX3_isHeadRead_5 : decode cX3_isHeadRead 5 = .ok (.aload_n 0, 1) := by decide +kernel
theorem dX3_isHeadRead_6 : decode cX3_isHeadRead 6 = .ok (.aload_n 1, 1) := by decide +kernel
theorem dX3_isHeadRead_7 : decode cX3_isHeadRead 7 = .ok (.iconst 2, 1) := by decide +kernel
theorem dX3_isHeadRead_8 : decode cX3_isHeadRead 8 = .ok (.invokevirtual 41, 3) := by decide +kernel
theorem dX3_isHeadRead_11 : decode cX3_isHeadRead 11 = .ok (.putfield 45, 3) := by decide +kernel
theorem dX3_isHeadRead_14 : decode cX3_isHeadRead 14 = .ok (.aload_n 0, 1) := by decide +kernel
theorem dX3_isHeadRead_15 : decode cX3_isHeadRead 15 = .ok (.getfield 45, 3) := by decide +kernel
theorem dX3_isHeadRead_18 : decode cX3_isHeadRead 18 = .ok (.iconst (-1), 1) := by decide +kernel
theorem dX3_isHeadRead_19 : decode cX3_isHeadRead 19 = .ok (.if_icmp .eq 12, 3) := by decide +kernel
theorem dX3_isHeadRead_22 : decode cX3_isHeadRead 22 = .ok (.aload_n 1, 1) := by decide +kernel
theorem dX3_isHeadRead_23 : decode cX3_isHeadRead 23 = .ok (.bipush 32, 2) := by decide +kernel
theorem dX3_isHeadRead_25 : decode cX3_isHeadRead 25 = .ok (.invokevirtual 48, 3) := by decide +kernel
theorem dX3_isHeadRead_28 : decode cX3_isHeadRead 28 = .ok (.ifCond .ne 5, 3) := by decide +kernel
theorem dX3_isHeadRead_31 : decode cX3_isHeadRead 31 = .ok (.iconst 0, 1) := by decide +kernel
theorem dX3_isHeadRead_32 : decode cX3_isHeadRead 32 = .ok (.ireturn, 1) := by decide +kernel
theorem dX3_isHeadRead_33 : decode cX3_isHeadRead 33 = .ok (.aload_n 0, 1) := by decide +kernel
theorem dX3_isHeadRead_34 : decode cX3_isHeadRead 34 = .ok (.aload_n 1, 1) := by decide +kernel
theorem dX3_isHeadRead_35 : decode cX3_isHeadRead 35 = .ok (.iconst 3, 1) := by decide +kernel
theorem dX3_isHeadRead_36 : decode cX3_isHeadRead 36 = .ok (.invokevirtual 41, 3) := by decide +kernel
theorem dX3_isHeadRead_39 : decode cX3_isHeadRead 39 = .ok (.putfield 52, 3) := by decide +kernel
theorem dX3_isHeadRead_42 : decode cX3_isHeadRead 42 = .ok (.aload_n 0, 1) := by decide +kernel
theorem dX3_isHeadRead_43 : decode cX3_isHeadRead 43 = .ok (.getfield 52, 3) := by decide +kernel
theorem dX3_isHeadRead_46 : decode cX3_isHeadRead 46 = .ok (.iconst (-1), 1) := by decide +kernel
theorem dX3_isHeadRead_47 : decode cX3_isHeadRead 47 = .ok (.if_icmp .eq 7, 3) := by decide +kernel
theorem dX3_isHeadRead_50 : decode cX3_isHeadRead 50 = .ok (.iconst 1, 1) := by decide +kernel
theorem dX3_isHeadRead_51 : decode cX3_isHeadRead 51 = .ok (.goto 4, 3) := by decide +kernel
theorem dX3_isHeadRead_54 : decode cX3_isHeadRead 54 = .ok (.iconst 0, 1) := by decide +kernel
theorem dX3_isHeadRead_55 : decode cX3_isHeadRead 55 = .ok (.ireturn, 1) := by decide +kernel
theorem dX3_isPartRead_0 : decode cX3_isPartRead 0 = .ok (.aload_n 0, 1) := by decide +kernel
theorem dX3_isPartRead_1 : decode cX3_isPartRead 1 = .ok (.getfield 37, 3) := by decide +kernel
theorem dX3_isPartRead_4 : decode cX3_isPartRead 4 = .ok (.iconst 3, 1) := by decide +kernel
theorem dX3_isPartRead_5 : decode cX3_isPartRead 5 = .ok (.if_icmp .ge 12, 3) := by decide +kernel
theorem dX3_isPartRead_8 : decode cX3_isPartRead 8 = .ok (.aload_n 1, 1) := by decide +kernel
theorem dX3_isPartRead_9 : decode cX3_isPartRead 9 = .ok (.bipush 32, 2) := by decide +kernel
theorem dX3_isPartRead_11 : decode cX3_isPartRead 11 = .ok (.invokevirtual 48, 3) := by decide +kernel
theorem dX3_isPartRead_14 : decode cX3_isPartRead 14 = .ok (.ifCond .ne 5, 3) := by decide +kernel
theorem dX3_isPartRead_17 : decode cX3_isPartRead 17 = .ok (.iconst 0, 1) := by decide +kernel
theorem dX3_isPartRead_18 : decode cX3_isPartRead 18 = .ok (.ireturn, 1) := by decide +kernel
theorem dX3_isPartRead_19 : decode cX3_isPartRead 19 = .ok (.aload_n 0, 1) := by decide +kernel
theorem dX3_isPartRead_20 : decode cX3_isPartRead 20 = .ok (.getfield 9, 3) := by decide +kernel
theorem dX3_isPartRead_23 : decode cX3_isPartRead 23 = .ok (.aload_n 0, 1) := by decide +kernel
theorem dX3_isPartRead_24 : decode cX3_isPartRead 24 = .ok (.getfield 37, 3) := by decide +kernel
theorem dX3_isPartRead_27 : decode cX3_isPartRead 27 = .ok (.aload_n 1, 1) := by decide +kernel
theorem dX3_isPartRead_28 : decode cX3_isPartRead 28 = .ok (.iconst 1, 1) := by decide +kernel
theorem dX3_isPartRead_29 : decode cX3_isPartRead 29 = .ok (.invokevirtual 41, 3) := by decide +kernel
theorem dX3_isPartRead_32 : decode cX3_isPartRead 32 = .ok (.iastore, 1) := by decide +kernel
theorem dX3_isPartRead_33 : decode cX3_isPartRead 33 = .ok (.aload_n 0, 1) := by decide +kernel
theorem dX3_isPartRead_34 : decode cX3_isPartRead 34 = .ok (.getfield 9, 3) := by decide +kernel
theorem dX3_isPartRead_37 : decode cX3_isPartRead 37 = .ok (.aload_n 0, 1) := by decide +kernel
theorem dX3_isPartRead_38 : decode cX3_isPartRead 38 = .ok (.getfield 37, 3) := by decide +kernel
theorem dX3_isPartRead_41 : decode cX3_isPartRead 41 = .ok (.iaload, 1) := by decide +kernel
theorem dX3_isPartRead_42 : decode cX3_isPartRead 42 = .ok (.iconst (-1), 1) := by decide +kernel
theorem dX3_isPartRead_43 : decode cX3_isPartRead 43 = .ok (.if_icmp .eq 12, 3) := by decide +kernel
theorem dX3_isPartRead_46 : decode cX3_isPartRead 46 = .ok (.aload_n 1, 1) := by decide +kernel
theorem dX3_isPartRead_47 : decode cX3_isPartRead 47 = .ok (.bipush 120, 2) := by decide +kernel
theorem dX3_isPartRead_49 : decode cX3_isPartRead 49 = .ok (.invokevirtual 48, 3) := by decide +kernel
theorem dX3_isPartRead_52 : decode cX3_isPartRead 52 = .ok (.ifCond .ne 5, 3) := by decide +kernel
theorem dX3_isPartRead_55 : decode cX3_isPartRead 55 = .ok (.iconst 0, 1) := by decide +kernel
theorem dX3_isPartRead_56 : decode cX3_isPartRead 56 = .ok (.ireturn, 1) := by decide +kernel
theorem dX3_isPartRead_57 : decode cX3_isPartRead 57 = .ok (.aload_n 0, 1) := by decide +kernel
theorem dX3_isPartRead_58 : decode cX3_isPartRead 58 = .ok (.getfield 15, 3) := by decide +kernel
theorem dX3_isPartRead_61 : decode cX3_isPartRead 61 = .ok (.aload_n 0, 1) := by decide +kernel
theorem dX3_isPartRead_62 : decode cX3_isPartRead 62 = .ok (.getfield 37, 3) := by decide +kernel
theorem dX3_isPartRead_65 : decode cX3_isPartRead 65 = .ok (.aload_n 1, 1) := by decide +kernel
theorem dX3_isPartRead_66 : decode cX3_isPartRead 66 = .ok (.iconst 1, 1) := by decide +kernel
theorem dX3_isPartRead_67 : decode cX3_isPartRead 67 = .ok (.invokevirtual 41, 3) := by decide +kernel
theorem dX3_isPartRead_70 : decode cX3_isPartRead 70 = .ok (.iastore, 1) := by decide +kernel
theorem dX3_isPartRead_71 : decode cX3_isPartRead 71 = .ok (.aload_n 0, 1) := by decide +kernel
theorem dX3_isPartRead_72 : decode cX3_isPartRead 72 = .ok (.dup, 1) := by decide +kernel
theorem dX3_isPartRead_73 : decode cX3_isPartRead 73 = .ok (.getfield 37, 3) := by decide +kernel
theorem dX3_isPartRead_76 : decode cX3_isPartRead 76 = .ok (.iconst 1, 1) := by decide +kernel
theorem dX3_isPartRead_77 : decode cX3_isPartRead 77 = .ok (.iadd, 1) := by decide +kernel
theorem dX3_isPartRead_78 : decode cX3_isPartRead 78 = .ok (.putfield 37, 3) := by decide +kernel
theorem dX3_isPartRead_81 : decode cX3_isPartRead 81 = .ok (.aload_n 0, 1) := by decide +kernel
theorem dX3_isPartRead_82 : decode cX3_isPartRead 82 = .ok (.getfield 15, 3) := by decide +kernel
theorem dX3_isPartRead_85 : decode cX3_isPartRead 85 = .ok (.aload_n 0, 1) := by decide +kernel
theorem dX3_isPartRead_86 : decode cX3_isPartRead 86 = .ok (.getfield 37, 3) := by decide +kernel
theorem dX3_isPartRead_89 : decode cX3_isPartRead 89 = .ok (.iconst 1, 1) := by decide +kernel
theorem dX3_isPartRead_90 : decode cX3_isPartRead 90 = .ok (.isub, 1) := by decide +kernel
theorem dX3_isPartRead_91 : decode cX3_isPartRead 91 = .ok (.iaload, 1) := by decide +kernel
theorem dX3_isPartRead_92 : decode cX3_isPartRead 92 = .ok (.iconst (-1), 1) := by decide +kernel
theorem dX3_isPartRead_93 : decode cX3_isPartRead 93 = .ok (.if_icmp .eq 7, 3) := by decide +kernel
theorem dX3_isPartRead_96 : decode cX3_isPartRead 96 = .ok (.iconst 1, 1) := by decide +kernel
theorem dX3_isPartRead_97 : decode cX3_isPartRead 97 = .ok (.goto 4, 3) := by decide +kernel
theorem dX3_isPartRead_100 : decode cX3_isPartRead 100 = .ok (.iconst 0, 1) := by decide +kernel
theorem dX3_isPartRead_101 : decode cX3_isPartRead 101 = .ok (.ireturn, 1) := by decide +kernel
theorem dX3_isTailRead_0 : decode cX3_isTailRead 0 = .ok (.iconst 1, 1) := by decide +kernel
theorem dX3_isTailRead_1 : decode cX3_isTailRead 1 = .ok (.istore_n 2, 1) := by decide +kernel
theorem dX3_isTailRead_2 : decode cX3_isTailRead 2 = .ok (.iload_n 2, 1) := by decide +kernel
theorem dX3_isTailRead_3 : decode cX3_isTailRead 3 = .ok (.iconst 3, 1) := by decide +kernel
theorem dX3_isTailRead_4 : decode cX3_isTailRead 4 = .ok (.if_icmp .ge 26, 3) := by decide +kernel
theorem dX3_isTailRead_7 : decode cX3_isTailRead 7 = .ok (.aload_n 1, 1) := by decide +kernel
theorem dX3_isTailRead_8 : decode cX3_isTailRead 8 = .ok (.invokevirtual 55, 3) := by decide +kernel
theorem dX3_isTailRead_11 : decode cX3_isTailRead 11 = .ok (.ifCond .ne 19, 3) := by decide +kernel
theorem dX3_isTailRead_14 : decode cX3_isTailRead 14 = .ok (.aload_n 0, 1) := by decide +kernel
theorem dX3_isTailRead_15 : decode cX3_isTailRead 15 = .ok (.aload_n 1, 1) := by decide +kernel
theorem dX3_isTailRead_16 : decode cX3_isTailRead 16 = .ok (.invokevirtual 27, 3) := by decide +kernel
theorem dX3_isTailRead_19 : decode cX3_isTailRead 19 = .ok (.ifCond .ne 5, 3) := by decide +kernel
theorem dX3_isTailRead_22 : decode cX3_isTailRead 22 = .ok (.iconst 0, 1) := by decide +kernel
theorem dX3_isTailRead_23 : decode cX3_isTailRead 23 = .ok (.ireturn, 1) := by decide +kernel
theorem dX3_isTailRead_24 : decode cX3_isTailRead 24 = .ok (.iinc 2 1, 3) := by decide +kernel
theorem dX3_isTailRead_27 : decode cX3_isTailRead 27 = .ok (.goto (-25), 3) := by decide +kernel
theorem dX3_isTailRead_30 : decode cX3_isTailRead 30 = .ok (.aload_n 1, 1) := by decide +kernel
theorem dX3_isTailRead_31 : decode cX3_isTailRead 31 = .ok (.invokevirtual 55, 3) := by decide +kernel
theorem dX3_isTailRead_34 : decode cX3_isTailRead 34 = .ok (.ireturn, 1) := by decide +kernel
theorem dX3_hasZero_0 : decode cX3_hasZero 0 = .ok (.iconst 0, 1) := by decide +kernel
theorem dX3_hasZero_1 : decode cX3_hasZero 1 = .ok (.istore_n 1, 1) := by decide +kernel
theorem dX3_hasZero_2 : decode cX3_hasZero 2 = .ok (.iload_n 1, 1) := by decide +kernel
theorem dX3_hasZero_3 : decode cX3_hasZero 3 = .ok (.aload_n 0, 1) := by decide +kernel
theorem dX3_hasZero_4 : decode cX3_hasZero 4 = .ok (.getfield 37, 3) := by decide +kernel
theorem dX3_hasZero_7 : decode cX3_hasZero 7 = .ok (.if_icmp .ge 20, 3) := by decide +kernel
theorem dX3_hasZero_10 : decode cX3_hasZero 10 = .ok (.aload_n 0, 1) := by decide +kernel
theorem dX3_hasZero_11 : decode cX3_hasZero 11 = .ok (.getfield 15, 3) := by decide +kernel
theorem dX3_hasZero_14 : decode cX3_hasZero 14 = .ok (.iload_n 1, 1) := by decide +kernel
theorem dX3_hasZero_15 : decode cX3_hasZero 15 = .ok (.iaload, 1) := by decide +kernel
theorem dX3_hasZero_16 : decode cX3_hasZero 16 = .ok (.ifCond .ne 5, 3) := by decide +kernel
theorem dX3_hasZero_19 : decode cX3_hasZero 19 = .ok (.iconst 1, 1) := by decide +kernel
theorem dX3_hasZero_20 : decode cX3_hasZero 20 = .ok (.ireturn, 1) := by decide +kernel
theorem dX3_hasZero_21 : decode cX3_hasZero 21 = .ok (.iinc 1 1, 3) := by decide +kernel
theorem dX3_hasZero_24 : decode cX3_hasZero 24 = .ok (.goto (-22), 3) := by decide +kernel
theorem dX3_hasZero_27 : decode cX3_hasZero 27 = .ok (.aload_n 0, 1) := by decide +kernel
theorem dX3_hasZero_28 : decode cX3_hasZero 28 = .ok (.getfield 45, 3) := by decide +kernel
theorem dX3_hasZero_31 : decode cX3_hasZero 31 = .ok (.ifCond .eq 10, 3) := by decide +kernel
theorem dX3_hasZero_34 : decode cX3_hasZero 34 = .ok (.aload_n 0, 1) := by decide +kernel
theorem dX3_hasZero_35 : decode cX3_hasZero 35 = .ok (.getfield 52, 3) := by decide +kernel
theorem dX3_hasZero_38 : decode cX3_hasZero 38 = .ok (.ifCond .ne 7, 3) := by decide +kernel
theorem dX3_hasZero_41 : decode cX3_hasZero 41 = .ok (.iconst 1, 1) := by decide +kernel
theorem dX3_hasZero_42 : decode cX3_hasZero 42 = .ok (.goto 4, 3) := by decide +kernel
theorem dX3_hasZero_45 : decode cX3_hasZero 45 = .ok (.iconst 0, 1) := by decide +kernel
theorem dX3_hasZero_46 : decode cX3_hasZero 46 = .ok (.ireturn, 1) := by decide +kernel
theorem dX3_highestPart_0 : decode cX3_highestPart 0 = .ok (.iconst 0, 1) := by decide +kernel
theorem dX3_highestPart_1 : decode cX3_highestPart 1 = .ok (.istore_n 1, 1) := by decide +kernel
theorem dX3_highestPart_2 : decode cX3_highestPart 2 = .ok (.iconst 0, 1) := by decide +kernel
theorem dX3_highestPart_3 : decode cX3_highestPart 3 = .ok (.istore_n 2, 1) := by decide +kernel
theorem dX3_highestPart_4 : decode cX3_highestPart 4 = .ok (.iload_n 2, 1) := by decide +kernel
theorem dX3_highestPart_5 : decode cX3_highestPart 5 = .ok (.aload_n 0, 1) := by decide +kernel
theorem dX3_highestPart_6 : decode cX3_highestPart 6 = .ok (.getfield 37, 3) := by decide +kernel
theorem dX3_highestPart_9 : decode cX3_highestPart 9 = .ok (.if_icmp .ge 20, 3) := by decide +kernel
theorem dX3_highestPart_12 : decode cX3_highestPart 12 = .ok (.iload_n 1, 1) := by decide +kernel
theorem dX3_highestPart_13 : decode cX3_highestPart 13 = .ok (.aload_n 0, 1) := by decide +kernel
theorem dX3_highestPart_14 : decode cX3_highestPart 14 = .ok (.getfield 9, 3) := by decide +kernel
theorem dX3_highestPart_17 : decode cX3_highestPart 17 = .ok (.iload_n 2, 1) := by decide +kernel
theorem dX3_highestPart_18 : decode cX3_highestPart 18 = .ok (.iaload, 1) := by decide +kernel
theorem dX3_highestPart_19 : decode cX3_highestPart 19 = .ok (.invokestatic 59, 3) := by decide +kernel
theorem dX3_highestPart_22 : decode cX3_highestPart 22 = .ok (.istore_n 1, 1) := by decide +kernel
theorem dX3_highestPart_23 : decode cX3_highestPart 23 = .ok (.iinc 2 1, 3) := by decide +kernel
theorem dX3_highestPart_26 : decode cX3_highestPart 26 = .ok (.goto (-22), 3) := by decide +kernel
theorem dX3_highestPart_29 : decode cX3_highestPart 29 = .ok (.iload_n 1, 1) := by decide +kernel
theorem dX3_highestPart_30 : decode cX3_highestPart 30 = .ok (.ireturn, 1) := by decide +kernel
theorem dX3_partTwice_0 : decode cX3_partTwice 0 = .ok (.iconst 0, 1) := by decide +kernel
theorem dX3_partTwice_1 : decode cX3_partTwice 1 = .ok (.istore_n 1, 1) := by decide +kernel
theorem dX3_partTwice_2 : decode cX3_partTwice 2 = .ok (.iload_n 1, 1) := by decide +kernel
theorem dX3_partTwice_3 : decode cX3_partTwice 3 = .ok (.aload_n 0, 1) := by decide +kernel
theorem dX3_partTwice_4 : decode cX3_partTwice 4 = .ok (.getfield 37, 3) := by decide +kernel
theorem dX3_partTwice_7 : decode cX3_partTwice 7 = .ok (.if_icmp .ge 44, 3) := by decide +kernel
theorem dX3_partTwice_10 : decode cX3_partTwice 10 = .ok (.iconst 0, 1) := by decide +kernel
theorem dX3_partTwice_11 : decode cX3_partTwice 11 = .ok (.istore_n 2, 1) := by decide +kernel
theorem dX3_partTwice_12 : decode cX3_partTwice 12 = .ok (.iload_n 2, 1) := by decide +kernel
theorem dX3_partTwice_13 : decode cX3_partTwice 13 = .ok (.iload_n 1, 1) := by decide +kernel
theorem dX3_partTwice_14 : decode cX3_partTwice 14 = .ok (.if_icmp .ge 31, 3) := by decide +kernel
theorem dX3_partTwice_17 : decode cX3_partTwice 17 = .ok (.aload_n 0, 1) := by decide +kernel
theorem dX3_partTwice_18 : decode cX3_partTwice 18 = .ok (.getfield 9, 3) := by decide +kernel
theorem dX3_partTwice_21 : decode cX3_partTwice 21 = .ok (.iload_n 2, 1) := by decide +kernel
theorem dX3_partTwice_22 : decode cX3_partTwice 22 = .ok (.iaload, 1) := by decide +kernel
theorem dX3_partTwice_23 : decode cX3_partTwice 23 = .ok (.aload_n 0, 1) := by decide +kernel
theorem dX3_partTwice_24 : decode cX3_partTwice 24 = .ok (.getfield 9, 3) := by decide +kernel
theorem dX3_partTwice_27 : decode cX3_partTwice 27 = .ok (.iload_n 1, 1) := by decide +kernel
theorem dX3_partTwice_28 : decode cX3_partTwice 28 = .ok (.iaload, 1) := by decide +kernel
theorem dX3_partTwice_29 : decode cX3_partTwice 29 = .ok (.if_icmp .ne 10, 3) := by decide +kernel
theorem dX3_partTwice_32 : decode cX3_partTwice 32 = .ok (.aload_n 0, 1) := by decide +kernel
theorem dX3_partTwice_33 : decode cX3_partTwice 33 = .ok (.getfield 9, 3) := by decide +kernel
theorem dX3_partTwice_36 : decode cX3_partTwice 36 = .ok (.iload_n 1, 1) := by decide +kernel
theorem dX3_partTwice_37 : decode cX3_partTwice 37 = .ok (.iaload, 1) := by decide +kernel
theorem dX3_partTwice_38 : decode cX3_partTwice 38 = .ok (.ireturn, 1) := by decide +kernel
theorem dX3_partTwice_39 : decode cX3_partTwice 39 = .ok (.iinc 2 1, 3) := by decide +kernel
theorem dX3_partTwice_42 : decode cX3_partTwice 42 = .ok (.goto (-30), 3) := by decide +kernel
theorem dX3_partTwice_45 : decode cX3_partTwice 45 = .ok (.iinc 1 1, 3) := by decide +kernel
theorem dX3_partTwice_48 : decode cX3_partTwice 48 = .ok (.goto (-46), 3) := by decide +kernel
theorem dX3_partTwice_51 : decode cX3_partTwice 51 = .ok (.iconst (-1), 1) := by decide +kernel
theorem dX3_partTwice_52 : decode cX3_partTwice 52 = .ok (.ireturn, 1) := by decide +kernel
theorem dX3_piecesFor_0 : decode cX3_piecesFor 0 = .ok (.iconst 0, 1) := by decide +kernel
theorem dX3_piecesFor_1 : decode cX3_piecesFor 1 = .ok (.istore_n 2, 1) := by decide +kernel
theorem dX3_piecesFor_2 : decode cX3_piecesFor 2 = .ok (.iload_n 2, 1) := by decide +kernel
theorem dX3_piecesFor_3 : decode cX3_piecesFor 3 = .ok (.aload_n 0, 1) := by decide +kernel
theorem dX3_piecesFor_4 : decode cX3_piecesFor 4 = .ok (.getfield 37, 3) := by decide +kernel
theorem dX3_piecesFor_7 : decode cX3_piecesFor 7 = .ok (.if_icmp .ge 26, 3) := by decide +kernel
theorem dX3_piecesFor_10 : decode cX3_piecesFor 10 = .ok (.aload_n 0, 1) := by decide +kernel
theorem dX3_piecesFor_11 : decode cX3_piecesFor 11 = .ok (.getfield 9, 3) := by decide +kernel
theorem dX3_piecesFor_14 : decode cX3_piecesFor 14 = .ok (.iload_n 2, 1) := by decide +kernel
theorem dX3_piecesFor_15 : decode cX3_piecesFor 15 = .ok (.iaload, 1) := by decide +kernel
theorem dX3_piecesFor_16 : decode cX3_piecesFor 16 = .ok (.iload_n 1, 1) := by decide +kernel
theorem dX3_piecesFor_17 : decode cX3_piecesFor 17 = .ok (.if_icmp .ne 10, 3) := by decide +kernel
theorem dX3_piecesFor_20 : decode cX3_piecesFor 20 = .ok (.aload_n 0, 1) := by decide +kernel
theorem dX3_piecesFor_21 : decode cX3_piecesFor 21 = .ok (.getfield 15, 3) := by decide +kernel
theorem dX3_piecesFor_24 : decode cX3_piecesFor 24 = .ok (.iload_n 2, 1) := by decide +kernel
theorem dX3_piecesFor_25 : decode cX3_piecesFor 25 = .ok (.iaload, 1) := by decide +kernel
theorem dX3_piecesFor_26 : decode cX3_piecesFor 26 = .ok (.ireturn, 1) := by decide +kernel
theorem dX3_piecesFor_27 : decode cX3_piecesFor 27 = .ok (.iinc 2 1, 3) := by decide +kernel
theorem dX3_piecesFor_30 : decode cX3_piecesFor 30 = .ok (.goto (-28), 3) := by decide +kernel
theorem dX3_piecesFor_33 : decode cX3_piecesFor 33 = .ok (.iconst 0, 1) := by decide +kernel
theorem dX3_piecesFor_34 : decode cX3_piecesFor 34 = .ok (.ireturn, 1) := by decide +kernel
theorem dX4_init_0 : decode cX4_init 0 = .ok (.aload_n 0, 1) := by decide +kernel
theorem dX4_init_1 : decode cX4_init 1 = .ok (.invokespecial 3, 3) := by decide +kernel
theorem dX4_init_4 : decode cX4_init 4 = .ok (.aload_n 0, 1) := by decide +kernel
theorem dX4_init_5 : decode cX4_init 5 = .ok (.new 9, 3) := by decide +kernel
theorem dX4_init_8 : decode cX4_init 8 = .ok (.dup, 1) := by decide +kernel
theorem dX4_init_9 : decode cX4_init 9 = .ok (.invokespecial 11, 3) := by decide +kernel
theorem dX4_init_12 : decode cX4_init 12 = .ok (.putfield 12, 3) := by decide +kernel
theorem dX4_init_15 : decode cX4_init 15 = .ok (.aload_n 0, 1) := by decide +kernel
theorem dX4_init_16 : decode cX4_init 16 = .ok (.new 18, 3) := by decide +kernel
theorem dX4_init_19 : decode cX4_init 19 = .ok (.dup, 1) := by decide +kernel
theorem dX4_init_20 : decode cX4_init 20 = .ok (.invokespecial 20, 3) := by decide +kernel
theorem dX4_init_23 : decode cX4_init 23 = .ok (.putfield 21, 3) := by decide +kernel
theorem dX4_init_26 : decode cX4_init 26 = .ok (.aload_n 0, 1) := by decide +kernel
theorem dX4_init_27 : decode cX4_init 27 = .ok (.new 25, 3) := by decide +kernel
theorem dX4_init_30 : decode cX4_init 30 = .ok (.dup, 1) := by decide +kernel
theorem dX4_init_31 : decode cX4_init 31 = .ok (.invokespecial 27, 3) := by decide +kernel
theorem dX4_init_34 : decode cX4_init 34 = .ok (.putfield 28, 3) := by decide +kernel
theorem dX4_init_37 : decode cX4_init 37 = .ok (.aload_n 0, 1) := by decide +kernel
theorem dX4_init_38 : decode cX4_init 38 = .ok (.new 32, 3) := by decide +kernel
theorem dX4_init_41 : decode cX4_init 41 = .ok (.dup, 1) := by decide +kernel
theorem dX4_init_42 : decode cX4_init 42 = .ok (.invokespecial 34, 3) := by decide +kernel
theorem dX4_init_45 : decode cX4_init 45 = .ok (.putfield 35, 3) := by decide +kernel
theorem dX4_init_48 : decode cX4_init 48 = .ok (.aload_n 0, 1) := by decide +kernel
theorem dX4_init_49 : decode cX4_init 49 = .ok (.iconst (-1), 1) := by decide +kernel
theorem dX4_init_50 : decode cX4_init 50 = .ok (.putfield 39, 3) := by decide +kernel
theorem dX4_init_53 : decode cX4_init 53 = .ok (.aload_n 0, 1) := by decide +kernel
theorem dX4_init_54 : decode cX4_init 54 = .ok (.iconst (-1), 1) := by decide +kernel
theorem dX4_init_55 : decode cX4_init 55 = .ok (.putfield 43, 3) := by decide +kernel
theorem dX4_init_58 : decode cX4_init 58 = .ok (.return_, 1) := by decide +kernel
theorem dX4_copyFrom_0 : decode cX4_copyFrom 0 = .ok (.aload_n 0, 1) := by decide +kernel
theorem dX4_copyFrom_1 : decode cX4_copyFrom 1 = .ok (.getfield 12, 3) := by decide +kernel
theorem dX4_copyFrom_4 : decode cX4_copyFrom 4 = .ok (.aload_n 1, 1) := by decide +kernel
theorem dX4_copyFrom_5 : decode cX4_copyFrom 5 = .ok (.getfield 12, 3) := by decide +kernel
theorem dX4_copyFrom_8 : decode cX4_copyFrom 8 = .ok (.invokevirtual 46, 3) := by decide +kernel
theorem dX4_copyFrom_11 : decode cX4_copyFrom 11 = .ok (.aload_n 0, 1) := by decide +kernel
theorem dX4_copyFrom_12 : decode cX4_copyFrom 12 = .ok (.getfield 21, 3) := by decide +kernel
theorem dX4_copyFrom_15 : decode cX4_copyFrom 15 = .ok (.aload_n 1, 1) := by decide +kernel
theorem dX4_copyFrom_16 : decode cX4_copyFrom 16 = .ok (.getfield 21, 3) := by decide +kernel
theorem dX4_copyFrom_19 : decode cX4_copyFrom 19 = .ok (.invokevirtual 50, 3) := by decide +kernel
theorem dX4_copyFrom_22 : decode cX4_copyFrom 22 = .ok (.aload_n 0, 1) := by decide +kernel
theorem dX4_copyFrom_23 : decode cX4_copyFrom 23 = .ok (.getfield 28, 3) := by decide +kernel
theorem dX4_copyFrom_26 : decode cX4_copyFrom 26 = .ok (.aload_n 1, 1) := by decide +kernel
theorem dX4_copyFrom_27 : decode cX4_copyFrom 27 = .ok (.getfield 28, 3) := by decide +kernel
theorem dX4_copyFrom_30 : decode cX4_copyFrom 30 = .ok (.invokevirtual 53, 3) := by decide +kernel
theorem dX4_copyFrom_33 : decode cX4_copyFrom 33 = .ok (.aload_n 0, 1) := by decide +kernel
theorem dX4_copyFrom_34 : decode cX4_copyFrom 34 = .ok (.getfield 35, 3) := by decide +kernel
theorem dX4_copyFrom_37 : decode cX4_copyFrom 37 = .ok (.aload_n 1, 1) := by decide +kernel
theorem dX4_copyFrom_38 : decode cX4_copyFrom 38 = .ok (.getfield 35, 3) := by decide +kernel
theorem dX4_copyFrom_41 : decode cX4_copyFrom 41 = .ok (.invokevirtual 56, 3) := by decide +kernel
theorem dX4_copyFrom_44 : decode cX4_copyFrom 44 = .ok (.aload_n 0, 1) := by decide +kernel
theorem dX4_copyFrom_45 : decode cX4_copyFrom 45 = .ok (.aload_n 1, 1) := by decide +kernel
theorem dX4_copyFrom_46 : decode cX4_copyFrom 46 = .ok (.getfield 59, 3) := by decide +kernel
theorem dX4_copyFrom_49 : decode cX4_copyFrom 49 = .ok (.putfield 59, 3) := by decide +kernel
theorem dX4_copyFrom_52 : decode cX4_copyFrom 52 = .ok (.aload_n 0, 1) := by decide +kernel
theorem dX4_copyFrom_53 : decode cX4_copyFrom 53 = .ok (.aload_n 1, 1) := by decide +kernel
theorem dX4_copyFrom_54 : decode cX4_copyFrom 54 = .ok (.getfield 62, 3) := by decide +kernel
theorem dX4_copyFrom_57 : decode cX4_copyFrom 57 = .ok (.putfield 62, 3) := by decide +kernel
theorem dX4_copyFrom_60 : decode cX4_copyFrom 60 = .ok (.aload_n 0, 1) := by decide +kernel
theorem dX4_copyFrom_61 : decode cX4_copyFrom 61 = .ok (.aload_n 1, 1) := by decide +kernel
theorem dX4_copyFrom_62 : decode cX4_copyFrom 62 = .ok (.getfield 65, 3) := by decide +kernel
theorem dX4_copyFrom_65 : decode cX4_copyFrom 65 = .ok (.putfield 65, 3) := by decide +kernel
theorem dX4_copyFrom_68 : decode cX4_copyFrom 68 = .ok (.aload_n 0, 1) := by decide +kernel
theorem dX4_copyFrom_69 : decode cX4_copyFrom 69 = .ok (.aload_n 1, 1) := by decide +kernel
theorem dX4_copyFrom_70 : decode cX4_copyFrom 70 = .ok (.getfield 39, 3) := by decide +kernel
theorem dX4_copyFrom_73 : decode cX4_copyFrom 73 = .ok (.putfield 39, 3) := by decide +kernel
theorem dX4_copyFrom_76 : decode cX4_copyFrom 76 = .ok (.aload_n 0, 1) := by decide +kernel
theorem dX4_copyFrom_77 : decode cX4_copyFrom 77 = .ok (.aload_n 1, 1) := by decide +kernel
theorem dX4_copyFrom_78 : decode cX4_copyFrom 78 = .ok (.getfield 43, 3) := by decide +kernel
theorem dX4_copyFrom_81 : decode cX4_copyFrom 81 = .ok (.putfield 43, 3) := by decide +kernel
theorem dX4_copyFrom_84 : decode cX4_copyFrom 84 = .ok (.aload_n 0, 1) := by decide +kernel
theorem dX4_copyFrom_85 : decode cX4_copyFrom 85 = .ok (.aload_n 1, 1) := by decide +kernel
theorem dX4_copyFrom_86 : decode cX4_copyFrom 86 = .ok (.getfield 68, 3) := by decide +kernel
theorem dX4_copyFrom_89 : decode cX4_copyFrom 89 = .ok (.putfield 68, 3) := by decide +kernel
theorem dX4_copyFrom_92 : decode cX4_copyFrom 92 = .ok (.aload_n 0, 1) := by decide +kernel
theorem dX4_copyFrom_93 : decode cX4_copyFrom 93 = .ok (.aload_n 1, 1) := by decide +kernel
theorem dX4_copyFrom_94 : decode cX4_copyFrom 94 = .ok (.getfield 71, 3) := by decide +kernel
theorem dX4_copyFrom_97 : decode cX4_copyFrom 97 = .ok (.putfield 71, 3) := by decide +kernel
theorem dX4_copyFrom_100 : decode cX4_copyFrom 100 = .ok (.aload_n 0, 1) := by decide +kernel
theorem dX4_copyFrom_101 : decode cX4_copyFrom 101 = .ok (.aload_n 1, 1) := by decide +kernel
theorem dX4_copyFrom_102 : decode cX4_copyFrom 102 = .ok (.getfield 74, 3) := by decide +kernel
theorem dX4_copyFrom_105 : decode cX4_copyFrom 105 = .ok (.putfield 74, 3) := by decide +kernel
theorem dX4_copyFrom_108 : decode cX4_copyFrom 108 = .ok (.return_, 1) := by decide +kernel
theorem dX4_mountFamily_0 : decode cX4_mountFamily 0 = .ok (.aload_n 0, 1) := by decide +kernel
theorem dX4_mountFamily_1 : decode cX4_mountFamily 1 = .ok (.getfield 12, 3) := by decide +kernel
theorem dX4_mountFamily_4 : decode cX4_mountFamily 4 = .ok (.iload_n 1, 1) := by decide +kernel
theorem dX4_mountFamily_5 : decode cX4_mountFamily 5 = .ok (.invokevirtual 77, 3) := by decide +kernel
theorem dX4_mountFamily_8 : decode cX4_mountFamily 8 = .ok (.ifCond .ne 10, 3) := by decide +kernel
theorem dX4_mountFamily_11 : decode cX4_mountFamily 11 = .ok (.aload_n 2, 1) := by decide +kernel
theorem dX4_mountFamily_12 : decode cX4_mountFamily 12 = .ok (.iconst 1, 1) := by decide +kernel
theorem dX4_mountFamily_13 : decode cX4_mountFamily 13 = .ok (.iconst 0, 1) := by decide +kernel
theorem dX4_mountFamily_14 : decode cX4_mountFamily 14 = .ok (.invokevirtual 81, 3) := by decide +kernel
theorem dX4_mountFamily_17 : decode cX4_mountFamily 17 = .ok (.ireturn, 1) := by decide +kernel
theorem dX4_mountFamily_18 : decode cX4_mountFamily 18 = .ok (.aload_n 0, 1) := by decide +kernel
theorem dX4_mountFamily_19 : decode cX4_mountFamily 19 = .ok (.getfield 43, 3) := by decide +kernel
theorem dX4_mountFamily_22 : decode cX4_mountFamily 22 = .ok (.iload_n 1, 1) := by decide +kernel
theorem dX4_mountFamily_23 : decode cX4_mountFamily 23 = .ok (.if_icmp .ne 10, 3) := by decide +kernel
theorem dX4_mountFamily_26 : decode cX4_mountFamily 26 = .ok (.aload_n 2, 1) := by decide +kernel
theorem dX4_mountFamily_27 : decode cX4_mountFamily 27 = .ok (.iconst 4, 1) := by decide +kernel
theorem dX4_mountFamily_28 : decode cX4_mountFamily 28 = .ok (.iconst 0, 1) := by decide +kernel
theorem dX4_mountFamily_29 : decode cX4_mountFamily 29 = .ok (.invokevirtual 81, 3) := by decide +kernel
theorem dX4_mountFamily_32 : decode cX4_mountFamily 32 = .ok (.ireturn, 1) := by decide +kernel
theorem dX4_mountFamily_33 : decode cX4_mountFamily 33 = .ok (.aload_n 0, 1) := by decide +kernel
theorem dX4_mountFamily_34 : decode cX4_mountFamily 34 = .ok (.iload_n 1, 1) := by decide +kernel
theorem dX4_mountFamily_35 : decode cX4_mountFamily 35 = .ok (.putfield 43, 3) := by decide +kernel
theorem dX4_mountFamily_38 : decode cX4_mountFamily 38 = .ok (.aload_n 0, 1) := by decide +kernel
theorem dX4_mountFamily_39 : decode cX4_mountFamily 39 = .ok (.aload_n 0, 1) := by decide +kernel
theorem dX4_mountFamily_40 : decode cX4_mountFamily 40 = .ok (.getfield 12, 3) := by decide +kernel
theorem dX4_mountFamily_43 : decode cX4_mountFamily 43 = .ok (.getfield 87, 3) := by decide +kernel
theorem dX4_mountFamily_46 : decode cX4_mountFamily 46 = .ok (.iconst 3, 1) := by decide +kernel
theorem dX4_mountFamily_47 : decode cX4_mountFamily 47 = .ok (.iaload, 1) := by decide +kernel
theorem dX4_mountFamily_48 : decode cX4_mountFamily 48 = .ok (.invokevirtual 91, 3) := by decide +kernel
theorem dX4_mountFamily_51 : decode cX4_mountFamily 51 = .ok (.ireturn, 1) := by decide +kernel
theorem dX4_loadDryer_0 : decode cX4_loadDryer 0 = .ok (.iload_n 1, 1) := by decide +kernel
theorem dX4_loadDryer_1 : decode cX4_loadDryer 1 = .ok (.iconst 0, 1) := by decide +kernel
theorem dX4_loadDryer_2 : decode cX4_loadDryer 2 = .ok (.iconst 2, 1) := by decide +kernel
theorem dX4_loadDryer_3 : decode cX4_loadDryer 3 = .ok (.invokestatic 95, 3) := by decide +kernel
theorem dX4_loadDryer_6 : decode cX4_loadDryer 6 = .ok (.ifCond .eq 14, 3) := by decide +kernel
theorem dX4_loadDryer_9 : decode cX4_loadDryer 9 = .ok (.aload_n 0, 1) := by decide +kernel
theorem dX4_loadDryer_10 : decode cX4_loadDryer 10 = .ok (.getfield 12, 3) := by decide +kernel
theorem dX4_loadDryer_13 : decode cX4_loadDryer 13 = .ok (.iload_n 2, 1) := by decide +kernel
theorem dX4_loadDryer_14 : decode cX4_loadDryer 14 = .ok (.invokevirtual 99, 3) := by decide +kernel
theorem dX4_loadDryer_17 : decode cX4_loadDryer 17 = .ok (.ifCond .ne 11, 3) := by decide +kernel
theorem dX4_loadDryer_20 : decode cX4_loadDryer 20 = .ok (.aload 4, 2) := by decide +kernel
theorem dX4_loadDryer_22 : decode cX4_loadDryer 22 = .ok (.iconst 1, 1) := by decide +kernel
theorem dX4_loadDryer_23 : decode cX4_loadDryer 23 = .ok (.iconst 0, 1) := by decide +kernel
theorem dX4_loadDryer_24 : decode cX4_loadDryer 24 = .ok (.invokevirtual 81, 3) := by decide +kernel
theorem dX4_loadDryer_27 : decode cX4_loadDryer 27 = .ok (.ireturn, 1) := by decide +kernel
theorem dX4_loadDryer_28 : decode cX4_loadDryer 28 = .ok (.aload_n 0, 1) := by decide +kernel
theorem dX4_loadDryer_29 : decode cX4_loadDryer 29 = .ok (.getfield 21, 3) := by decide +kernel
theorem dX4_loadDryer_32 : decode cX4_loadDryer 32 = .ok (.iload_n 1, 1) := by decide +kernel
theorem dX4_loadDryer_33 : decode cX4_loadDryer 33 = .ok (.iload_n 2, 1) := by decide +kernel
theorem dX4_loadDryer_34 : decode cX4_loadDryer 34 = .ok (.iload_n 3, 1) := by decide +kernel
theorem dX4_loadDryer_35 : decode cX4_loadDryer 35 = .ok (.aload 4, 2) := by decide +kernel
theorem dX4_loadDryer_37 : decode cX4_loadDryer 37 = .ok (.invokevirtual 102, 3) := by decide +kernel
theorem dX4_loadDryer_40 : decode cX4_loadDryer 40 = .ok (.ireturn, 1) := by decide +kernel
theorem dX4_waitMinutes_0 : decode cX4_waitMinutes 0 = .ok (.iload_n 1, 1) := by decide +kernel
theorem dX4_waitMinutes_1 : decode cX4_waitMinutes 1 = .ok (.iconst 1, 1) := by decide +kernel
theorem dX4_waitMinutes_2 : decode cX4_waitMinutes 2 = .ok (.sipush 999, 3) := by decide +kernel
theorem dX4_waitMinutes_5 : decode cX4_waitMinutes 5 = .ok (.invokestatic 95, 3) := by decide +kernel
theorem dX4_waitMinutes_8 : decode cX4_waitMinutes 8 = .ok (.ifCond .ne 10, 3) := by decide +kernel
theorem dX4_waitMinutes_11 : decode cX4_waitMinutes 11 = .ok (.aload_n 2, 1) := by decide +kernel
theorem dX4_waitMinutes_12 : decode cX4_waitMinutes 12 = .ok (.iconst 2, 1) := by decide +kernel
theorem dX4_waitMinutes_13 : decode cX4_waitMinutes 13 = .ok (.iconst 0, 1) := by decide +kernel
theorem dX4_waitMinutes_14 : decode cX4_waitMinutes 14 = .ok (.invokevirtual 81, 3) := by decide +kernel
theorem dX4_waitMinutes_17 : decode cX4_waitMinutes 17 = .ok (.ireturn, 1) := by decide +kernel
theorem dX4_waitMinutes_18 : decode cX4_waitMinutes 18 = .ok (.aload_n 0, 1) := by decide +kernel
theorem dX4_waitMinutes_19 : decode cX4_waitMinutes 19 = .ok (.iload_n 1, 1) := by decide +kernel
theorem dX4_waitMinutes_20 : decode cX4_waitMinutes 20 = .ok (.invokevirtual 91, 3) := by decide +kernel
theorem dX4_waitMinutes_23 : decode cX4_waitMinutes 23 = .ok (.ireturn, 1) := by decide +kernel
theorem dX4_addOrder_0 : decode cX4_addOrder 0 = .ok (.aload_n 0, 1) := by decide +kernel
theorem dX4_addOrder_1 : decode cX4_addOrder 1 = .ok (.getfield 12, 3) := by decide +kernel
theorem dX4_addOrder_4 : decode cX4_addOrder 4 = .ok (.iload_n 1, 1) := by decide +kernel
theorem dX4_addOrder_5 : decode cX4_addOrder 5 = .ok (.invokevirtual 106, 3) := by decide +kernel
theorem dX4_addOrder_8 : decode cX4_addOrder 8 = .ok (.ifCond .eq 14, 3) := by decide +kernel
theorem dX4_addOrder_11 : decode cX4_addOrder 11 = .ok (.aload_n 0, 1) := by decide +kernel
theorem dX4_addOrder_12 : decode cX4_addOrder 12 = .ok (.getfield 12, 3) := by decide +kernel
theorem dX4_addOrder_15 : decode cX4_addOrder 15 = .ok (.iload_n 2, 1) := by decide +kernel
theorem dX4_addOrder_16 : decode cX4_addOrder 16 = .ok (.invokevirtual 99, 3) := by decide +kernel
theorem dX4_addOrder_19 : decode cX4_addOrder 19 = .ok (.ifCond .ne 11, 3) := by decide +kernel
theorem dX4_addOrder_22 : decode cX4_addOrder 22 = .ok (.aload 5, 2) := by decide +kernel
theorem dX4_addOrder_24 : decode cX4_addOrder 24 = .ok (.iconst 1, 1) := by decide +kernel
theorem dX4_addOrder_25 : decode cX4_addOrder 25 = .ok (.iconst 0, 1) := by decide +kernel
theorem dX4_addOrder_26 : decode cX4_addOrder 26 = .ok (.invokevirtual 81, 3) := by decide +kernel
theorem dX4_addOrder_29 : decode cX4_addOrder 29 = .ok (.ireturn, 1) := by decide +kernel
theorem dX4_addOrder_30 : decode cX4_addOrder 30 = .ok (.aload_n 0, 1) := by decide +kernel
theorem dX4_addOrder_31 : decode cX4_addOrder 31 = .ok (.getfield 35, 3) := by decide +kernel
theorem dX4_addOrder_34 : decode cX4_addOrder 34 = .ok (.iload_n 1, 1) := by decide +kernel
theorem dX4_addOrder_35 : decode cX4_addOrder 35 = .ok (.iload_n 2, 1) := by decide +kernel
theorem dX4_addOrder_36 : decode cX4_addOrder 36 = .ok (.iload_n 3, 1) := by decide +kernel
theorem dX4_addOrder_37 : decode cX4_addOrder 37 = .ok (.iload 4, 2) := by decide +kernel
theorem dX4_addOrder_39 : decode cX4_addOrder 39 = .ok (.aload 5, 2) := by decide +kernel
theorem dX4_addOrder_41 : decode cX4_addOrder 41 = .ok (.invokevirtual 109, 3) := by decide +kernel
theorem dX4_addOrder_44 : decode cX4_addOrder 44 = .ok (.ireturn, 1) := by decide +kernel
theorem dX4_runShots_0 : decode cX4_runShots 0 = .ok (.aload_n 0, 1) := by decide +kernel
theorem dX4_runShots_1 : decode cX4_runShots 1 = .ok (.getfield 12, 3) := by decide +kernel
theorem dX4_runShots_4 : decode cX4_runShots 4 = .ok (.iload_n 1, 1) := by decide +kernel
theorem dX4_runShots_5 : decode cX4_runShots 5 = .ok (.invokevirtual 99, 3) := by decide +kernel
theorem dX4_runShots_8 : decode cX4_runShots 8 = .ok (.ifCond .ne 10, 3) := by decide +kernel
theorem dX4_runShots_11 : decode cX4_runShots 11 = .ok (.aload_n 3, 1) := by decide +kernel
theorem dX4_runShots_12 : decode cX4_runShots 12 = .ok (.iconst 1, 1) := by decide +kernel
theorem dX4_runShots_13 : decode cX4_runShots 13 = .ok (.iconst 0, 1) := by decide +kernel
theorem dX4_runShots_14 : decode cX4_runShots 14 = .ok (.invokevirtual 81, 3) := by decide +kernel
theorem dX4_runShots_17 : decode cX4_runShots 17 = .ok (.ireturn, 1) := by decide +kernel
theorem dX4_runShots_18 : decode cX4_runShots 18 = .ok (.iload_n 2, 1) := by decide +kernel
theorem dX4_runShots_19 : decode cX4_runShots 19 = .ok (.iconst 1, 1) := by decide +kernel
theorem dX4_runShots_20 : decode cX4_runShots 20 = .ok (.sipush 200, 3) := by decide +kernel
theorem dX4_runShots_23 : decode cX4_runShots 23 = .ok (.invokestatic 95, 3) := by decide +kernel
theorem dX4_runShots_26 : decode cX4_runShots 26 = .ok (.ifCond .ne 10, 3) := by decide +kernel
theorem dX4_runShots_29 : decode cX4_runShots 29 = .ok (.aload_n 3, 1) := by decide +kernel
theorem dX4_runShots_30 : decode cX4_runShots 30 = .ok (.iconst 2, 1) := by decide +kernel
theorem dX4_runShots_31 : decode cX4_runShots 31 = .ok (.iconst 0, 1) := by decide +kernel
theorem dX4_runShots_32 : decode cX4_runShots 32 = .ok (.invokevirtual 81, 3) := by decide +kernel
theorem dX4_runShots_35 : decode cX4_runShots 35 = .ok (.ireturn, 1) := by decide +kernel
theorem dX4_runShots_36 : decode cX4_runShots 36 = .ok (.aload_n 0, 1) := by decide +kernel
theorem dX4_runShots_37 : decode cX4_runShots 37 = .ok (.getfield 12, 3) := by decide +kernel
theorem dX4_runShots_40 : decode cX4_runShots 40 = .ok (.aload_n 0, 1) := by decide +kernel
theorem dX4_runShots_41 : decode cX4_runShots 41 = .ok (.getfield 43, 3) := by decide +kernel
theorem dX4_runShots_44 : decode cX4_runShots 44 = .ok (.invokevirtual 77, 3) := by decide +kernel
theorem dX4_runShots_47 : decode cX4_runShots 47 = .ok (.ifCond .ne 10, 3) := by decide +kernel
theorem dX4_runShots_50 : decode cX4_runShots 50 = .ok (.aload_n 3, 1) := by decide +kernel
theorem dX4_runShots_51 : decode cX4_runShots 51 = .ok (.iconst 5, 1) := by decide +kernel
theorem dX4_runShots_52 : decode cX4_runShots 52 = .ok (.iconst 0, 1) := by decide +kernel
theorem dX4_runShots_53 : decode cX4_runShots 53 = .ok (.invokevirtual 81, 3) := by decide +kernel
theorem dX4_runShots_56 : decode cX4_runShots 56 = .ok (.ireturn, 1) := by decide +kernel
theorem dX4_runShots_57 : decode cX4_runShots 57 = .ok (.aload_n 0, 1) := by decide +kernel
theorem dX4_runShots_58 : decode cX4_runShots 58 = .ok (.getfield 12, 3) := by decide +kernel
theorem dX4_runShots_61 : decode cX4_runShots 61 = .ok (.aload_n 0, 1) := by decide +kernel
theorem dX4_runShots_62 : decode cX4_runShots 62 = .ok (.getfield 39, 3) := by decide +kernel
theorem dX4_runShots_65 : decode cX4_runShots 65 = .ok (.iload_n 1, 1) := by decide +kernel
theorem dX4_runShots_66 : decode cX4_runShots 66 = .ok (.invokevirtual 113, 3) := by decide +kernel
theorem dX4_runShots_69 : decode cX4_runShots 69 = .ok (.istore 4, 2) := by decide +kernel
theorem dX4_runShots_71 : decode cX4_runShots 71 = .ok (.iload 4, 2) := by decide +kernel
theorem dX4_runShots_73 : decode cX4_runShots 73 = .ok (.iload_n 2, 1) := by decide +kernel
theorem dX4_runShots_74 : decode cX4_runShots 74 = .ok (.iadd, 1) := by decide +kernel
theorem dX4_runShots_75 : decode cX4_runShots 75 = .ok (.aload_n 0, 1) := by decide +kernel
theorem dX4_runShots_76 : decode cX4_runShots 76 = .ok (.getfield 12, 3) := by decide +kernel
theorem dX4_runShots_79 : decode cX4_runShots 79 = .ok (.getfield 116, 3) := by decide +kernel
theorem dX4_runShots_82 : decode cX4_runShots 82 = .ok (.aload_n 0, 1) := by decide +kernel
theorem dX4_runShots_83 : decode cX4_runShots 83 = .ok (.getfield 43, 3) := by decide +kernel
theorem dX4_runShots_86 : decode cX4_runShots 86 = .ok (.iaload, 1) := by decide +kernel
theorem dX4_runShots_87 : decode cX4_runShots 87 = .ok (.imul, 1) := by decide +kernel
theorem dX4_runShots_88 : decode cX4_runShots 88 = .ok (.istore 5, 2) := by decide +kernel
theorem dX4_runShots_90 : decode cX4_runShots 90 = .ok (.aload_n 0, 1) := by decide +kernel
theorem dX4_runShots_91 : decode cX4_runShots 91 = .ok (.getfield 21, 3) := by decide +kernel
theorem dX4_runShots_94 : decode cX4_runShots 94 = .ok (.iload_n 1, 1) := by decide +kernel
theorem dX4_runShots_95 : decode cX4_runShots 95 = .ok (.iload 5, 2) := by decide +kernel
theorem dX4_runShots_97 : decode cX4_runShots 97 = .ok (.aload_n 0, 1) := by decide +kernel
theorem dX4_runShots_98 : decode cX4_runShots 98 = .ok (.getfield 12, 3) := by decide +kernel
theorem dX4_runShots_101 : decode cX4_runShots 101 = .ok (.getfield 87, 3) := by decide +kernel
theorem dX4_runShots_104 : decode cX4_runShots 104 = .ok (.iconst 1, 1) := by decide +kernel
theorem dX4_runShots_105 : decode cX4_runShots 105 = .ok (.iaload, 1) := by decide +kernel
theorem dX4_runShots_106 : decode cX4_runShots 106 = .ok (.invokevirtual 119, 3) := by decide +kernel
theorem dX4_runShots_109 : decode cX4_runShots 109 = .ok (.istore 6, 2) := by decide +kernel
theorem dX4_runShots_111 : decode cX4_runShots 111 = .ok (.iload 6, 2) := by decide +kernel
theorem dX4_runShots_113 : decode cX4_runShots 113 = .ok (.iconst (-1), 1) := by decide +kernel
theorem dX4_runShots_114 : decode cX4_runShots 114 = .ok (.if_icmp .ne 12, 3) := by decide +kernel
theorem dX4_runShots_117 : decode cX4_runShots 117 = .ok (.aload_n 0, 1) := by decide +kernel
theorem dX4_runShots_118 : decode cX4_runShots 118 = .ok (.iload_n 1, 1) := by decide +kernel
theorem dX4_runShots_119 : decode cX4_runShots 119 = .ok (.iload 5, 2) := by decide +kernel
theorem dX4_runShots_121 : decode cX4_runShots 121 = .ok (.aload_n 3, 1) := by decide +kernel
theorem dX4_runShots_122 : decode cX4_runShots 122 = .ok (.invokevirtual 123, 3) := by decide +kernel
theorem dX4_runShots_125 : decode cX4_runShots 125 = .ok (.ireturn, 1) := by decide +kernel
theorem dX4_runShots_126 : decode cX4_runShots 126 = .ok (.aload_n 0, 1) := by decide +kernel
theorem dX4_runShots_127 : decode cX4_runShots 127 = .ok (.getfield 21, 3) := by decide +kernel
theorem dX4_runShots_130 : decode cX4_runShots 130 = .ok (.iload 6, 2) := by decide +kernel
theorem dX4_runShots_132 : decode cX4_runShots 132 = .ok (.iload 5, 2) := by decide +kernel
theorem dX4_runShots_134 : decode cX4_runShots 134 = .ok (.invokevirtual 127, 3) := by decide +kernel
theorem dX4_runShots_137 : decode cX4_runShots 137 = .ok (.aload_n 0, 1) := by decide +kernel
theorem dX4_runShots_138 : decode cX4_runShots 138 = .ok (.dup, 1) := by decide +kernel
theorem dX4_runShots_139 : decode cX4_runShots 139 = .ok (.getfield 68, 3) := by decide +kernel
theorem dX4_runShots_142 : decode cX4_runShots 142 = .ok (.iload 5, 2) := by decide +kernel
theorem dX4_runShots_144 : decode cX4_runShots 144 = .ok (.iadd, 1) := by decide +kernel
theorem dX4_runShots_145 : decode cX4_runShots 145 = .ok (.putfield 68, 3) := by decide +kernel
theorem dX4_runShots_148 : decode cX4_runShots 148 = .ok (.aload_n 0, 1) := by decide +kernel
theorem dX4_runShots_149 : decode cX4_runShots 149 = .ok (.dup, 1) := by decide +kernel
theorem dX4_runShots_150 : decode cX4_runShots 150 = .ok (.getfield 71, 3) := by decide +kernel
theorem dX4_runShots_153 : decode cX4_runShots 153 = .ok (.iload 4, 2) := by decide +kernel
theorem dX4_runShots_155 : decode cX4_runShots 155 = .ok (.iload_n 2, 1) := by decide +kernel
theorem dX4_runShots_156 : decode cX4_runShots 156 = .ok (.iadd, 1) := by decide +kernel
theorem dX4_runShots_157 : decode cX4_runShots 157 = .ok (.iadd, 1) := by decide +kernel
theorem dX4_runShots_158 : decode cX4_runShots 158 = .ok (.putfield 71, 3) := by decide +kernel
theorem dX4_runShots_161 : decode cX4_runShots 161 = .ok (.aload_n 0, 1) := by decide +kernel
theorem dX4_runShots_162 : decode cX4_runShots 162 = .ok (.dup, 1) := by decide +kernel
theorem dX4_runShots_163 : decode cX4_runShots 163 = .ok (.getfield 74, 3) := by decide +kernel
theorem dX4_runShots_166 : decode cX4_runShots 166 = .ok (.iload 4, 2) := by decide +kernel
theorem dX4_runShots_168 : decode cX4_runShots 168 = .ok (.iadd, 1) := by decide +kernel
theorem dX4_runShots_169 : decode cX4_runShots 169 = .ok (.putfield 74, 3) := by decide +kernel
theorem dX4_runShots_172 : decode cX4_runShots 172 = .ok (.aload_n 0, 1) := by decide +kernel
theorem dX4_runShots_173 : decode cX4_runShots 173 = .ok (.iload_n 1, 1) := by decide +kernel
theorem dX4_runShots_174 : decode cX4_runShots 174 = .ok (.putfield 39, 3) := by decide +kernel
theorem dX4_runShots_177 : decode cX4_runShots 177 = .ok (.aload_n 0, 1) := by decide +kernel
theorem dX4_runShots_178 : decode cX4_runShots 178 = .ok (.iload 4, 2) := by decide +kernel
theorem dX4_runShots_180 : decode cX4_runShots 180 = .ok (.iload_n 2, 1) := by decide +kernel
theorem dX4_runShots_181 : decode cX4_runShots 181 = .ok (.iadd, 1) := by decide +kernel
theorem dX4_runShots_182 : decode cX4_runShots 182 = .ok (.aload_n 0, 1) := by decide +kernel
theorem dX4_runShots_183 : decode cX4_runShots 183 = .ok (.getfield 12, 3) := by decide +kernel
theorem dX4_runShots_186 : decode cX4_runShots 186 = .ok (.getfield 131, 3) := by decide +kernel
theorem dX4_runShots_189 : decode cX4_runShots 189 = .ok (.aload_n 0, 1) := by decide +kernel
theorem dX4_runShots_190 : decode cX4_runShots 190 = .ok (.getfield 43, 3) := by decide +kernel
theorem dX4_runShots_193 : decode cX4_runShots 193 = .ok (.iaload, 1) := by decide +kernel
theorem dX4_runShots_194 : decode cX4_runShots 194 = .ok (.imul, 1) := by decide +kernel
theorem dX4_runShots_195 : decode cX4_runShots 195 = .ok (.invokevirtual 91, 3) := by decide +kernel
theorem dX4_runShots_198 : decode cX4_runShots 198 = .ok (.pop, 1) := by decide +kernel
theorem dX4_runShots_199 : decode cX4_runShots 199 = .ok (.aload_n 0, 1) := by decide +kernel
theorem dX4_runShots_200 : decode cX4_runShots 200 = .ok (.iload 4, 2) := by decide +kernel
theorem dX4_runShots_202 : decode cX4_runShots 202 = .ok (.iload_n 2, 1) := by decide +kernel
theorem dX4_runShots_203 : decode cX4_runShots 203 = .ok (.invokevirtual 134, 3) := by decide +kernel
theorem dX4_runShots_206 : decode cX4_runShots 206 = .ok (.iload 4, 2) := by decide +kernel
theorem dX4_runShots_208 : decode cX4_runShots 208 = .ok (.ireturn, 1) := by decide +kernel
theorem dX4_refuseForDryers_0 : decode cX4_refuseForDryers 0 = .ok (.aload_n 3, 1) := by decide +kernel
theorem dX4_refuseForDryers_1 : decode cX4_refuseForDryers 1 = .ok (.bipush 10, 2) := by decide +kernel
theorem dX4_refuseForDryers_3 : decode cX4_refuseForDryers 3 = .ok (.iconst 0, 1) := by decide +kernel
theorem dX4_refuseForDryers_4 : decode cX4_refuseForDryers 4 = .ok (.invokevirtual 81, 3) := by decide +kernel
theorem dX4_refuseForDryers_7 : decode cX4_refuseForDryers 7 = .ok (.pop, 1) := by decide +kernel
theorem dX4_refuseForDryers_8 : decode cX4_refuseForDryers 8 = .ok (.aload_n 0, 1) := by decide +kernel
theorem dX4_refuseForDryers_9 : decode cX4_refuseForDryers 9 = .ok (.getfield 21, 3) := by decide +kernel
theorem dX4_refuseForDryers_12 : decode cX4_refuseForDryers 12 = .ok (.iload_n 1, 1) := by decide +kernel
theorem dX4_refuseForDryers_13 : decode cX4_refuseForDryers 13 = .ok (.invokevirtual 137, 3) := by decide +kernel
theorem dX4_refuseForDryers_16 : decode cX4_refuseForDryers 16 = .ok (.istore 4, 2) := by decide +kernel
theorem dX4_refuseForDryers_18 : decode cX4_refuseForDryers 18 = .ok (.iload 4, 2) := by decide +kernel
theorem dX4_refuseForDryers_20 : decode cX4_refuseForDryers 20 = .ok (.iconst (-1), 1) := by decide +kernel
theorem dX4_refuseForDryers_21 : decode cX4_refuseForDryers 21 = .ok (.if_icmp .eq 57, 3) := by decide +kernel
theorem dX4_refuseForDryers_24 : decode cX4_refuseForDryers 24 = .ok (.aload_n 0, 1) := by decide +kernel
theorem dX4_refuseForDryers_25 : decode cX4_refuseForDryers 25 = .ok (.getfield 21, 3) := by decide +kernel
theorem dX4_refuseForDryers_28 : decode cX4_refuseForDryers 28 = .ok (.iload 4, 2) := by decide +kernel
theorem dX4_refuseForDryers_30 : decode cX4_refuseForDryers 30 = .ok (.aload_n 0, 1) := by decide +kernel
theorem dX4_refuseForDryers_31 : decode cX4_refuseForDryers 31 = .ok (.getfield 12, 3) := by decide +kernel
theorem dX4_refuseForDryers_34 : decode cX4_refuseForDryers 34 = .ok (.getfield 87, 3) := by decide +kernel
theorem dX4_refuseForDryers_37 : decode cX4_refuseForDryers 37 = .ok (.iconst 1, 1) := by decide +kernel
theorem dX4_refuseForDryers_38 : decode cX4_refuseForDryers 38 = .ok (.iaload, 1) := by decide +kernel
theorem dX4_refuseForDryers_39 : decode cX4_refuseForDryers 39 = .ok (.invokevirtual 140, 3) := by decide +kernel
theorem dX4_refuseForDryers_42 : decode cX4_refuseForDryers 42 = .ok (.istore 5, 2) := by decide +kernel
theorem dX4_refuseForDryers_44 : decode cX4_refuseForDryers 44 = .ok (.iload 5, 2) := by decide +kernel
theorem dX4_refuseForDryers_46 : decode cX4_refuseForDryers 46 = .ok (.ifCond .le 14, 3) := by decide +kernel
theorem dX4_refuseForDryers_49 : decode cX4_refuseForDryers 49 = .ok (.aload_n 3, 1) := by decide +kernel
theorem dX4_refuseForDryers_50 : decode cX4_refuseForDryers 50 = .ok (.bipush 11, 2) := by decide +kernel
theorem dX4_refuseForDryers_52 : decode cX4_refuseForDryers 52 = .ok (.iload 5, 2) := by decide +kernel
theorem dX4_refuseForDryers_54 : decode cX4_refuseForDryers 54 = .ok (.invokevirtual 143, 3) := by decide +kernel
theorem dX4_refuseForDryers_57 : decode cX4_refuseForDryers 57 = .ok (.goto 21, 3) := by decide +kernel
theorem dX4_refuseForDryers_60 : decode cX4_refuseForDryers 60 = .ok (.aload_n 3, 1) := by decide +kernel
theorem dX4_refuseForDryers_61 : decode cX4_refuseForDryers 61 = .ok (.bipush 12, 2) := by decide +kernel
theorem dX4_refuseForDryers_63 : decode cX4_refuseForDryers 63 = .ok (.iload_n 2, 1) := by decide +kernel
theorem dX4_refuseForDryers_64 : decode cX4_refuseForDryers 64 = .ok (.aload_n 0, 1) := by decide +kernel
theorem dX4_refuseForDryers_65 : decode cX4_refuseForDryers 65 = .ok (.getfield 21, 3) := by decide +kernel
theorem dX4_refuseForDryers_68 : decode cX4_refuseForDryers 68 = .ok (.getfield 146, 3) := by decide +kernel
theorem dX4_refuseForDryers_71 : decode cX4_refuseForDryers 71 = .ok (.iload 4, 2) := by decide +kernel
theorem dX4_refuseForDryers_73 : decode cX4_refuseForDryers 73 = .ok (.iaload, 1) := by decide +kernel
theorem dX4_refuseForDryers_74 : decode cX4_refuseForDryers 74 = .ok (.isub, 1) := by decide +kernel
theorem dX4_refuseForDryers_75 : decode cX4_refuseForDryers 75 = .ok (.invokevirtual 143, 3) := by decide +kernel
theorem dX4_refuseForDryers_78 : decode cX4_refuseForDryers 78 = .ok (.iconst (-1), 1) := by decide +kernel
theorem dX4_refuseForDryers_79 : decode cX4_refuseForDryers 79 = .ok (.ireturn, 1) := by decide +kernel
theorem dX4_putPieces_0 : decode cX4_putPieces 0 = .ok (.iconst 0, 1) := by decide +kernel
theorem dX4_putPieces_1 : decode cX4_putPieces 1 = .ok (.istore_n 3, 1) := by decide +kernel
theorem dX4_putPieces_2 : decode cX4_putPieces 2 = .ok (.iload_n 3, 1) := by decide +kernel
theorem dX4_putPieces_3 : decode cX4_putPieces 3 = .ok (.aload_n 0, 1) := by decide +kernel
theorem dX4_putPieces_4 : decode cX4_putPieces 4 = .ok (.getfield 12, 3) := by decide +kernel
theorem dX4_putPieces_7 : decode cX4_putPieces 7 = .ok (.getfield 149, 3) := by decide +kernel
theorem dX4_putPieces_10 : decode cX4_putPieces 10 = .ok (.if_icmp .ge 65, 3) := by decide +kernel
theorem dX4_putPieces_13 : decode cX4_putPieces 13 = .ok (.aload_n 0, 1) := by decide +kernel
theorem dX4_putPieces_14 : decode cX4_putPieces 14 = .ok (.getfield 12, 3) := by decide +kernel
theorem dX4_putPieces_17 : decode cX4_putPieces 17 = .ok (.aload_n 0, 1) := by decide +kernel
theorem dX4_putPieces_18 : decode cX4_putPieces 18 = .ok (.getfield 43, 3) := by decide +kernel
theorem dX4_putPieces_21 : decode cX4_putPieces 21 = .ok (.iload_n 3, 1) := by decide +kernel
theorem dX4_putPieces_22 : decode cX4_putPieces 22 = .ok (.invokevirtual 152, 3) := by decide +kernel
theorem dX4_putPieces_25 : decode cX4_putPieces 25 = .ok (.istore 4, 2) := by decide +kernel
theorem dX4_putPieces_27 : decode cX4_putPieces 27 = .ok (.iload 4, 2) := by decide +kernel
theorem dX4_putPieces_29 : decode cX4_putPieces 29 = .ok (.ifCond .le 40, 3) := by decide +kernel
theorem dX4_putPieces_32 : decode cX4_putPieces 32 = .ok (.aload_n 0, 1) := by decide +kernel
theorem dX4_putPieces_33 : decode cX4_putPieces 33 = .ok (.getfield 28, 3) := by decide +kernel
theorem dX4_putPieces_36 : decode cX4_putPieces 36 = .ok (.iload_n 3, 1) := by decide +kernel
theorem dX4_putPieces_37 : decode cX4_putPieces 37 = .ok (.iload 4, 2) := by decide +kernel
theorem dX4_putPieces_39 : decode cX4_putPieces 39 = .ok (.iload_n 1, 1) := by decide +kernel
theorem dX4_putPieces_40 : decode cX4_putPieces 40 = .ok (.imul, 1) := by decide +kernel
theorem dX4_putPieces_41 : decode cX4_putPieces 41 = .ok (.invokevirtual 155, 3) := by decide +kernel
theorem dX4_putPieces_44 : decode cX4_putPieces 44 = .ok (.aload_n 0, 1) := by decide +kernel
theorem dX4_putPieces_45 : decode cX4_putPieces 45 = .ok (.getfield 28, 3) := by decide +kernel
theorem dX4_putPieces_48 : decode cX4_putPieces 48 = .ok (.iload_n 3, 1) := by decide +kernel
theorem dX4_putPieces_49 : decode cX4_putPieces 49 = .ok (.aload_n 0, 1) := by decide +kernel
theorem dX4_putPieces_50 : decode cX4_putPieces 50 = .ok (.getfield 39, 3) := by decide +kernel
theorem dX4_putPieces_53 : decode cX4_putPieces 53 = .ok (.iload 4, 2) := by decide +kernel
theorem dX4_putPieces_55 : decode cX4_putPieces 55 = .ok (.iload_n 2, 1) := by decide +kernel
theorem dX4_putPieces_56 : decode cX4_putPieces 56 = .ok (.imul, 1) := by decide +kernel
theorem dX4_putPieces_57 : decode cX4_putPieces 57 = .ok (.aload_n 0, 1) := by decide +kernel
theorem dX4_putPieces_58 : decode cX4_putPieces 58 = .ok (.getfield 12, 3) := by decide +kernel
theorem dX4_putPieces_61 : decode cX4_putPieces 61 = .ok (.getfield 158, 3) := by decide +kernel
theorem dX4_putPieces_64 : decode cX4_putPieces 64 = .ok (.iload_n 3, 1) := by decide +kernel
theorem dX4_putPieces_65 : decode cX4_putPieces 65 = .ok (.iaload, 1) := by decide +kernel
theorem dX4_putPieces_66 : decode cX4_putPieces 66 = .ok (.invokevirtual 161, 3) := by decide +kernel
theorem dX4_putPieces_69 : decode cX4_putPieces 69 = .ok (.iinc 3 1, 3) := by decide +kernel
theorem dX4_putPieces_72 : decode cX4_putPieces 72 = .ok (.goto (-70), 3) := by decide +kernel
theorem dX4_putPieces_75 : decode cX4_putPieces 75 = .ok (.return_, 1) := by decide +kernel
theorem dX4_pass_0 : decode cX4_pass 0 = .ok (.aload_n 0, 1) := by decide +kernel
theorem dX4_pass_1 : decode cX4_pass 1 = .ok (.getfield 21, 3) := by decide +kernel
theorem dX4_pass_4 : decode cX4_pass 4 = .ok (.iload_n 1, 1) := by decide +kernel
theorem dX4_pass_5 : decode cX4_pass 5 = .ok (.invokevirtual 165, 3) := by decide +kernel
theorem dX4_pass_8 : decode cX4_pass 8 = .ok (.aload_n 0, 1) := by decide +kernel
theorem dX4_pass_9 : decode cX4_pass 9 = .ok (.dup, 1) := by decide +kernel
theorem dX4_pass_10 : decode cX4_pass 10 = .ok (.getfield 59, 3) := by decide +kernel
theorem dX4_pass_13 : decode cX4_pass 13 = .ok (.iload_n 1, 1) := by decide +kernel
theorem dX4_pass_14 : decode cX4_pass 14 = .ok (.iadd, 1) := by decide +kernel
theorem dX4_pass_15 : decode cX4_pass 15 = .ok (.putfield 59, 3) := by decide +kernel
theorem dX4_pass_18 : decode cX4_pass 18 = .ok (.iconst 0, 1) := by decide +kernel
theorem dX4_pass_19 : decode cX4_pass 19 = .ok (.istore_n 2, 1) := by decide +kernel
theorem dX4_pass_20 : decode cX4_pass 20 = .ok (.iload_n 1, 1) := by decide +kernel
theorem dX4_pass_21 : decode cX4_pass 21 = .ok (.istore_n 3, 1) := by decide +kernel
theorem dX4_pass_22 : decode cX4_pass 22 = .ok (.iload_n 3, 1) := by decide +kernel
theorem dX4_pass_23 : decode cX4_pass 23 = .ok (.ifCond .le 82, 3) := by decide +kernel
theorem dX4_pass_26 : decode cX4_pass 26 = .ok (.iconst 1, 1) := by decide +kernel
theorem dX4_pass_27 : decode cX4_pass 27 = .ok (.aload_n 0, 1) := by decide +kernel
theorem dX4_pass_28 : decode cX4_pass 28 = .ok (.getfield 12, 3) := by decide +kernel
theorem dX4_pass_31 : decode cX4_pass 31 = .ok (.getfield 87, 3) := by decide +kernel
theorem dX4_pass_34 : decode cX4_pass 34 = .ok (.iconst 0, 1) := by decide +kernel
theorem dX4_pass_35 : decode cX4_pass 35 = .ok (.iaload, 1) := by decide +kernel
theorem dX4_pass_36 : decode cX4_pass 36 = .ok (.aload_n 0, 1) := by decide +kernel
theorem dX4_pass_37 : decode cX4_pass 37 = .ok (.getfield 65, 3) := by decide +kernel
theorem dX4_pass_40 : decode cX4_pass 40 = .ok (.isub, 1) := by decide +kernel
theorem dX4_pass_41 : decode cX4_pass 41 = .ok (.invokestatic 169, 3) := by decide +kernel
theorem dX4_pass_44 : decode cX4_pass 44 = .ok (.istore 4, 2) := by decide +kernel
theorem dX4_pass_46 : decode cX4_pass 46 = .ok (.iload 4, 2) := by decide +kernel
theorem dX4_pass_48 : decode cX4_pass 48 = .ok (.iload_n 3, 1) := by decide +kernel
theorem dX4_pass_49 : decode cX4_pass 49 = .ok (.if_icmp .le 15, 3) := by decide +kernel
theorem dX4_pass_52 : decode cX4_pass 52 = .ok (.aload_n 0, 1) := by decide +kernel
theorem dX4_pass_53 : decode cX4_pass 53 = .ok (.dup, 1) := by decide +kernel
theorem dX4_pass_54 : decode cX4_pass 54 = .ok (.getfield 65, 3) := by decide +kernel
theorem dX4_pass_57 : decode cX4_pass 57 = .ok (.iload_n 3, 1) := by decide +kernel
theorem dX4_pass_58 : decode cX4_pass 58 = .ok (.iadd, 1) := by decide +kernel
theorem dX4_pass_59 : decode cX4_pass 59 = .ok (.putfield 65, 3) := by decide +kernel
theorem dX4_pass_62 : decode cX4_pass 62 = .ok (.iload_n 2, 1) := by decide +kernel
theorem dX4_pass_63 : decode cX4_pass 63 = .ok (.ireturn, 1) := by decide +kernel
theorem dX4_pass_64 : decode cX4_pass 64 = .ok (.iload_n 3, 1) := by decide +kernel
theorem dX4_pass_65 : decode cX4_pass 65 = .ok (.iload 4, 2) := by decide +kernel
theorem dX4_pass_67 : decode cX4_pass 67 = .ok (.isub, 1) := by decide +kernel
theorem dX4_pass_68 : decode cX4_pass 68 = .ok (.istore_n 3, 1) := by decide +kernel
theorem dX4_pass_69 : decode cX4_pass 69 = .ok (.aload_n 0, 1) := by decide +kernel
theorem dX4_pass_70 : decode cX4_pass 70 = .ok (.iconst 0, 1) := by decide +kernel
theorem dX4_pass_71 : decode cX4_pass 71 = .ok (.putfield 65, 3) := by decide +kernel
theorem dX4_pass_74 : decode cX4_pass 74 = .ok (.aload_n 0, 1) := by decide +kernel
theorem dX4_pass_75 : decode cX4_pass 75 = .ok (.getfield 35, 3) := by decide +kernel
theorem dX4_pass_78 : decode cX4_pass 78 = .ok (.aload_n 0, 1) := by decide +kernel
theorem dX4_pass_79 : decode cX4_pass 79 = .ok (.getfield 62, 3) := by decide +kernel
theorem dX4_pass_82 : decode cX4_pass 82 = .ok (.aload_n 0, 1) := by decide +kernel
theorem dX4_pass_83 : decode cX4_pass 83 = .ok (.getfield 28, 3) := by decide +kernel
theorem dX4_pass_86 : decode cX4_pass 86 = .ok (.invokevirtual 174, 3) := by decide +kernel
theorem dX4_pass_89 : decode cX4_pass 89 = .ok (.aload_n 0, 1) := by decide +kernel
theorem dX4_pass_90 : decode cX4_pass 90 = .ok (.dup, 1) := by decide +kernel
theorem dX4_pass_91 : decode cX4_pass 91 = .ok (.getfield 62, 3) := by decide +kernel
theorem dX4_pass_94 : decode cX4_pass 94 = .ok (.iconst 1, 1) := by decide +kernel
theorem dX4_pass_95 : decode cX4_pass 95 = .ok (.iadd, 1) := by decide +kernel
theorem dX4_pass_96 : decode cX4_pass 96 = .ok (.putfield 62, 3) := by decide +kernel
theorem dX4_pass_99 : decode cX4_pass 99 = .ok (.iinc 2 1, 3) := by decide +kernel
theorem dX4_pass_102 : decode cX4_pass 102 = .ok (.goto (-80), 3) := by decide +kernel
theorem dX4_pass_105 : decode cX4_pass 105 = .ok (.iload_n 2, 1) := by decide +kernel
theorem dX4_pass_106 : decode cX4_pass 106 = .ok (.ireturn, 1) := by decide +kernel
theorem dX4_piecesFor_0 : decode cX4_piecesFor 0 = .ok (.aload_n 0, 1) := by decide +kernel
theorem dX4_piecesFor_1 : decode cX4_piecesFor 1 = .ok (.getfield 12, 3) := by decide +kernel
theorem dX4_piecesFor_4 : decode cX4_piecesFor 4 = .ok (.aload_n 0, 1) := by decide +kernel
theorem dX4_piecesFor_5 : decode cX4_piecesFor 5 = .ok (.getfield 43, 3) := by decide +kernel
theorem dX4_piecesFor_8 : decode cX4_piecesFor 8 = .ok (.aload_n 0, 1) := by decide +kernel
theorem dX4_piecesFor_9 : decode cX4_piecesFor 9 = .ok (.getfield 35, 3) := by decide +kernel
theorem dX4_piecesFor_12 : decode cX4_piecesFor 12 = .ok (.getfield 178, 3) := by decide +kernel
theorem dX4_piecesFor_15 : decode cX4_piecesFor 15 = .ok (.iload_n 1, 1) := by decide +kernel
theorem dX4_piecesFor_16 : decode cX4_piecesFor 16 = .ok (.iaload, 1) := by decide +kernel
theorem dX4_piecesFor_17 : decode cX4_piecesFor 17 = .ok (.invokevirtual 152, 3) := by decide +kernel
theorem dX4_piecesFor_20 : decode cX4_piecesFor 20 = .ok (.ireturn, 1) := by decide +kernel
theorem dX4_lackingPieces_0 : decode cX4_lackingPieces 0 = .ok (.aload_n 0, 1) := by decide +kernel
theorem dX4_lackingPieces_1 : decode cX4_lackingPieces 1 = .ok (.getfield 35, 3) := by decide +kernel
theorem dX4_lackingPieces_4 : decode cX4_lackingPieces 4 = .ok (.getfield 178, 3) := by decide +kernel
theorem dX4_lackingPieces_7 : decode cX4_lackingPieces 7 = .ok (.iload_n 1, 1) := by decide +kernel
theorem dX4_lackingPieces_8 : decode cX4_lackingPieces 8 = .ok (.iaload, 1) := by decide +kernel
theorem dX4_lackingPieces_9 : decode cX4_lackingPieces 9 = .ok (.istore_n 2, 1) := by decide +kernel
theorem dX4_lackingPieces_10 : decode cX4_lackingPieces 10 = .ok (.iload_n 2, 1) := by decide +kernel
theorem dX4_lackingPieces_11 : decode cX4_lackingPieces 11 = .ok (.bipush 6, 2) := by decide +kernel
theorem dX4_lackingPieces_13 : decode cX4_lackingPieces 13 = .ok (.imul, 1) := by decide +kernel
theorem dX4_lackingPieces_14 : decode cX4_lackingPieces 14 = .ok (.aload_n 0, 1) := by decide +kernel
theorem dX4_lackingPieces_15 : decode cX4_lackingPieces 15 = .ok (.getfield 35, 3) := by decide +kernel
theorem dX4_lackingPieces_18 : decode cX4_lackingPieces 18 = .ok (.getfield 181, 3) := by decide +kernel
theorem dX4_lackingPieces_21 : decode cX4_lackingPieces 21 = .ok (.iload_n 1, 1) := by decide +kernel
theorem dX4_lackingPieces_22 : decode cX4_lackingPieces 22 = .ok (.iaload, 1) := by decide +kernel
theorem dX4_lackingPieces_23 : decode cX4_lackingPieces 23 = .ok (.iadd, 1) := by decide +kernel
theorem dX4_lackingPieces_24 : decode cX4_lackingPieces 24 = .ok (.istore_n 3, 1) := by decide +kernel
theorem dX4_lackingPieces_25 : decode cX4_lackingPieces 25 = .ok (.aload_n 0, 1) := by decide +kernel
theorem dX4_lackingPieces_26 : decode cX4_lackingPieces 26 = .ok (.getfield 35, 3) := by decide +kernel
theorem dX4_lackingPieces_29 : decode cX4_lackingPieces 29 = .ok (.getfield 184, 3) := by decide +kernel
theorem dX4_lackingPieces_32 : decode cX4_lackingPieces 32 = .ok (.iload_n 1, 1) := by decide +kernel
theorem dX4_lackingPieces_33 : decode cX4_lackingPieces 33 = .ok (.iaload, 1) := by decide +kernel
theorem dX4_lackingPieces_34 : decode cX4_lackingPieces 34 = .ok (.aload_n 0, 1) := by decide +kernel
theorem dX4_lackingPieces_35 : decode cX4_lackingPieces 35 = .ok (.getfield 28, 3) := by decide +kernel
theorem dX4_lackingPieces_38 : decode cX4_lackingPieces 38 = .ok (.getfield 187, 3) := by decide +kernel
theorem dX4_lackingPieces_41 : decode cX4_lackingPieces 41 = .ok (.iload_n 3, 1) := by decide +kernel
theorem dX4_lackingPieces_42 : decode cX4_lackingPieces 42 = .ok (.iaload, 1) := by decide +kernel
theorem dX4_lackingPieces_43 : decode cX4_lackingPieces 43 = .ok (.isub, 1) := by decide +kernel
theorem dX4_lackingPieces_44 : decode cX4_lackingPieces 44 = .ok (.istore 4, 2) := by decide +kernel
theorem dX4_lackingPieces_46 : decode cX4_lackingPieces 46 = .ok (.iload 4, 2) := by decide +kernel
theorem dX4_lackingPieces_48 : decode cX4_lackingPieces 48 = .ok (.ifCond .gt 7, 3) := by decide +kernel
theorem dX4_lackingPieces_51 : decode cX4_lackingPieces 51 = .ok (.iconst 0, 1) := by decide +kernel
theorem dX4_lackingPieces_52 : decode cX4_lackingPieces 52 = .ok (.goto 25, 3) := by decide +kernel
theorem dX4_lackingPieces_55 : decode cX4_lackingPieces 55 = .ok (.iload 4, 2) := by decide +kernel
theorem dX4_lackingPieces_57 : decode cX4_lackingPieces 57 = .ok (.aload_n 0, 1) := by decide +kernel
theorem dX4_lackingPieces_58 : decode cX4_lackingPieces 58 = .ok (.getfield 12, 3) := by decide +kernel
theorem dX4_lackingPieces_61 : decode cX4_lackingPieces 61 = .ok (.getfield 158, 3) := by decide +kernel
theorem dX4_lackingPieces_64 : decode cX4_lackingPieces 64 = .ok (.iload_n 2, 1) := by decide +kernel
theorem dX4_lackingPieces_65 : decode cX4_lackingPieces 65 = .ok (.iaload, 1) := by decide +kernel
theorem dX4_lackingPieces_66 : decode cX4_lackingPieces 66 = .ok (.imul, 1) := by decide +kernel
theorem dX4_lackingPieces_67 : decode cX4_lackingPieces 67 = .ok (.aload_n 0, 1) := by decide +kernel
theorem dX4_lackingPieces_68 : decode cX4_lackingPieces 68 = .ok (.getfield 28, 3) := by decide +kernel
theorem dX4_lackingPieces_71 : decode cX4_lackingPieces 71 = .ok (.getfield 190, 3) := by decide +kernel
theorem dX4_lackingPieces_74 : decode cX4_lackingPieces 74 = .ok (.iload_n 3, 1) := by decide +kernel
theorem dX4_lackingPieces_75 : decode cX4_lackingPieces 75 = .ok (.iaload, 1) := by decide +kernel
theorem dX4_lackingPieces_76 : decode cX4_lackingPieces 76 = .ok (.isub, 1) := by decide +kernel
theorem dX4_lackingPieces_77 : decode cX4_lackingPieces 77 = .ok (.ireturn, 1) := by decide +kernel
theorem dX5_init_0 : decode cX5_init 0 = .ok (.aload_n 0, 1) := by decide +kernel
theorem dX5_init_1 : decode cX5_init 1 = .ok (.invokespecial 3, 3) := by decide +kernel
theorem dX5_init_4 : decode cX5_init 4 = .ok (.aload_n 0, 1) := by decide +kernel
theorem dX5_init_5 : decode cX5_init 5 = .ok (.bipush 9, 2) := by decide +kernel
theorem dX5_init_7 : decode cX5_init 7 = .ok (.anewarray 11, 3) := by decide +kernel
theorem dX5_init_10 : decode cX5_init 10 = .ok (.putfield 13, 3) := by decide +kernel
theorem dX5_init_13 : decode cX5_init 13 = .ok (.iconst 0, 1) := by decide +kernel
theorem dX5_init_14 : decode cX5_init 14 = .ok (.istore_n 1, 1) := by decide +kernel
theorem dX5_init_15 : decode cX5_init 15 = .ok (.iload_n 1, 1) := by decide +kernel
theorem dX5_init_16 : decode cX5_init 16 = .ok (.bipush 9, 2) := by decide +kernel
theorem dX5_init_18 : decode cX5_init 18 = .ok (.if_icmp .ge 22, 3) := by decide +kernel
theorem dX5_init_21 : decode cX5_init 21 = .ok (.aload_n 0, 1) := by decide +kernel
theorem dX5_init_22 : decode cX5_init 22 = .ok (.getfield 13, 3) := by decide +kernel
theorem dX5_init_25 : decode cX5_init 25 = .ok (.iload_n 1, 1) := by decide +kernel
theorem dX5_init_26 : decode cX5_init 26 = .ok (.new 11, 3) := by decide +kernel
theorem dX5_init_29 : decode cX5_init 29 = .ok (.dup, 1) := by decide +kernel
theorem dX5_init_30 : decode cX5_init 30 = .ok (.invokespecial 17, 3) := by decide +kernel
theorem dX5_init_33 : decode cX5_init 33 = .ok (.aastore, 1) := by decide +kernel
theorem dX5_init_34 : decode cX5_init 34 = .ok (.iinc 1 1, 3) := by decide +kernel
theorem dX5_init_37 : decode cX5_init 37 = .ok (.goto (-22), 3) := by decide +kernel
theorem dX5_init_40 : decode cX5_init 40 = .ok (.return_, 1) := by decide +kernel
theorem dX5_begin_0 : decode cX5_begin 0 = .ok (.aload_n 0, 1) := by decide +kernel
theorem dX5_begin_1 : decode cX5_begin 1 = .ok (.getfield 13, 3) := by decide +kernel
theorem dX5_begin_4 : decode cX5_begin 4 = .ok (.aload_n 0, 1) := by decide +kernel
theorem dX5_begin_5 : decode cX5_begin 5 = .ok (.invokevirtual 18, 3) := by decide +kernel
theorem dX5_begin_8 : decode cX5_begin 8 = .ok (.aaload, 1) := by decide +kernel
theorem dX5_begin_9 : decode cX5_begin 9 = .ok (.aload_n 1, 1) := by decide +kernel
theorem dX5_begin_10 : decode cX5_begin 10 = .ok (.invokevirtual 22, 3) := by decide +kernel
theorem dX5_begin_13 : decode cX5_begin 13 = .ok (.return_, 1) := by decide +kernel
theorem dX5_keep_0 : decode cX5_keep 0 = .ok (.aload_n 0, 1) := by decide +kernel
theorem dX5_keep_1 : decode cX5_keep 1 = .ok (.getfield 26, 3) := by decide +kernel
theorem dX5_keep_4 : decode cX5_keep 4 = .ok (.bipush 8, 2) := by decide +kernel
theorem dX5_keep_6 : decode cX5_keep 6 = .ok (.if_icmp .ge 16, 3) := by decide +kernel
theorem dX5_keep_9 : decode cX5_keep 9 = .ok (.aload_n 0, 1) := by decide +kernel
theorem dX5_keep_10 : decode cX5_keep 10 = .ok (.dup, 1) := by decide +kernel
theorem dX5_keep_11 : decode cX5_keep 11 = .ok (.getfield 26, 3) := by decide +kernel
theorem dX5_keep_14 : decode cX5_keep 14 = .ok (.iconst 1, 1) := by decide +kernel
theorem dX5_keep_15 : decode cX5_keep 15 = .ok (.iadd, 1) := by decide +kernel
theorem dX5_keep_16 : decode cX5_keep 16 = .ok (.putfield 26, 3) := by decide +kernel
theorem dX5_keep_19 : decode cX5_keep 19 = .ok (.goto 16, 3) := by decide +kernel
theorem dX5_keep_22 : decode cX5_keep 22 = .ok (.aload_n 0, 1) := by decide +kernel
theorem dX5_keep_23 : decode cX5_keep 23 = .ok (.aload_n 0, 1) := by decide +kernel
theorem dX5_keep_24 : decode cX5_keep 24 = .ok (.getfield 30, 3) := by decide +kernel
theorem dX5_keep_27 : decode cX5_keep 27 = .ok (.iconst 1, 1) := by decide +kernel
theorem dX5_keep_28 : decode cX5_keep 28 = .ok (.iadd, 1) := by decide +kernel
theorem dX5_keep_29 : decode cX5_keep 29 = .ok (.bipush 9, 2) := by decide +kernel
theorem dX5_keep_31 : decode cX5_keep 31 = .ok (.irem, 1) := by decide +kernel
theorem dX5_keep_32 : decode cX5_keep 32 = .ok (.putfield 30, 3) := by decide +kernel
theorem dX5_keep_35 : decode cX5_keep 35 = .ok (.return_, 1) := by decide +kernel
theorem dX5_rollBack_0 : decode cX5_rollBack 0 = .ok (.aload_n 1, 1) := by decide +kernel
theorem dX5_rollBack_1 : decode cX5_rollBack 1 = .ok (.aload_n 0, 1) := by decide +kernel
theorem dX5_rollBack_2 : decode cX5_rollBack 2 = .ok (.getfield 13, 3) := by decide +kernel
theorem dX5_rollBack_5 : decode cX5_rollBack 5 = .ok (.aload_n 0, 1) := by decide +kernel
theorem dX5_rollBack_6 : decode cX5_rollBack 6 = .ok (.invokevirtual 18, 3) := by decide +kernel
theorem dX5_rollBack_9 : decode cX5_rollBack 9 = .ok (.aaload, 1) := by decide +kernel
theorem dX5_rollBack_10 : decode cX5_rollBack 10 = .ok (.invokevirtual 22, 3) := by decide +kernel
theorem dX5_rollBack_13 : decode cX5_rollBack 13 = .ok (.return_, 1) := by decide +kernel
theorem dX5_takeBack_0 : decode cX5_takeBack 0 = .ok (.aload_n 0, 1) := by decide +kernel
theorem dX5_takeBack_1 : decode cX5_takeBack 1 = .ok (.getfield 26, 3) := by decide +kernel
theorem dX5_takeBack_4 : decode cX5_takeBack 4 = .ok (.ifCond .le 26, 3) := by decide +kernel
theorem dX5_takeBack_7 : decode cX5_takeBack 7 = .ok (.aload_n 0, 1) := by decide +kernel
theorem dX5_takeBack_8 : decode cX5_takeBack 8 = .ok (.dup, 1) := by decide +kernel
theorem dX5_takeBack_9 : decode cX5_takeBack 9 = .ok (.getfield 26, 3) := by decide +kernel
theorem dX5_takeBack_12 : decode cX5_takeBack 12 = .ok (.iconst 1, 1) := by decide +kernel
theorem dX5_takeBack_13 : decode cX5_takeBack 13 = .ok (.isub, 1) := by decide +kernel
theorem dX5_takeBack_14 : decode cX5_takeBack 14 = .ok (.putfield 26, 3) := by decide +kernel
theorem dX5_takeBack_17 : decode cX5_takeBack 17 = .ok (.aload_n 1, 1) := by decide +kernel
theorem dX5_takeBack_18 : decode cX5_takeBack 18 = .ok (.aload_n 0, 1) := by decide +kernel
theorem dX5_takeBack_19 : decode cX5_takeBack 19 = .ok (.getfield 13, 3) := by decide +kernel
theorem dX5_takeBack_22 : decode cX5_takeBack 22 = .ok (.aload_n 0, 1) := by decide +kernel
theorem dX5_takeBack_23 : decode cX5_takeBack 23 = .ok (.invokevirtual 18, 3) := by decide +kernel
theorem dX5_takeBack_26 : decode cX5_takeBack 26 = .ok (.aaload, 1) := by decide +kernel
theorem dX5_takeBack_27 : decode cX5_takeBack 27 = .ok (.invokevirtual 22, 3) := by decide +kernel
theorem dX5_takeBack_30 : decode cX5_takeBack 30 = .ok (.return_, 1) := by decide +kernel
theorem dX5_forget_0 : decode cX5_forget 0 = .ok (.aload_n 0, 1) := by decide +kernel
theorem dX5_forget_1 : decode cX5_forget 1 = .ok (.iconst 0, 1) := by decide +kernel
theorem dX5_forget_2 : decode cX5_forget 2 = .ok (.putfield 26, 3) := by decide +kernel
theorem dX5_forget_5 : decode cX5_forget 5 = .ok (.return_, 1) := by decide +kernel
theorem dX5_roomBehind_0 : decode cX5_roomBehind 0 = .ok (.aload_n 0, 1) := by decide +kernel
theorem dX5_roomBehind_1 : decode cX5_roomBehind 1 = .ok (.getfield 30, 3) := by decide +kernel
theorem dX5_roomBehind_4 : decode cX5_roomBehind 4 = .ok (.aload_n 0, 1) := by decide +kernel
theorem dX5_roomBehind_5 : decode cX5_roomBehind 5 = .ok (.getfield 26, 3) := by decide +kernel
theorem dX5_roomBehind_8 : decode cX5_roomBehind 8 = .ok (.iadd, 1) := by decide +kernel
theorem dX5_roomBehind_9 : decode cX5_roomBehind 9 = .ok (.bipush 9, 2) := by decide +kernel
theorem dX5_roomBehind_11 : decode cX5_roomBehind 11 = .ok (.irem, 1) := by decide +kernel
theorem dX5_roomBehind_12 : decode cX5_roomBehind 12 = .ok (.ireturn, 1) := by decide +kernel
theorem dX6_init_0 : decode cX6_init 0 = .ok (.aload_n 0, 1) := by decide +kernel
theorem dX6_init_1 : decode cX6_init 1 = .ok (.invokespecial 3, 3) := by decide +kernel
theorem dX6_init_4 : decode cX6_init 4 = .ok (.aload_n 0, 1) := by decide +kernel
theorem dX6_init_5 : decode cX6_init 5 = .ok (.bipush 10, 2) := by decide +kernel
theorem dX6_init_7 : decode cX6_init 7 = .ok (.newarray .int, 2) := by decide +kernel
theorem dX6_init_9 : decode cX6_init 9 = .ok (.putfield 9, 3) := by decide +kernel
theorem dX6_init_12 : decode cX6_init 12 = .ok (.aload_n 0, 1) := by decide +kernel
theorem dX6_init_13 : decode cX6_init 13 = .ok (.bipush 10, 2) := by decide +kernel
theorem dX6_init_15 : decode cX6_init 15 = .ok (.newarray .int, 2) := by decide +kernel
theorem dX6_init_17 : decode cX6_init 17 = .ok (.putfield 15, 3) := by decide +kernel
theorem dX6_init_20 : decode cX6_init 20 = .ok (.aload_n 0, 1) := by decide +kernel
theorem dX6_init_21 : decode cX6_init 21 = .ok (.bipush 10, 2) := by decide +kernel
theorem dX6_init_23 : decode cX6_init 23 = .ok (.newarray .int, 2) := by decide +kernel
theorem dX6_init_25 : decode cX6_init 25 = .ok (.putfield 18, 3) := by decide +kernel
theorem dX6_init_28 : decode cX6_init 28 = .ok (.aload_n 0, 1) := by decide +kernel
theorem dX6_init_29 : decode cX6_init 29 = .ok (.bipush 10, 2) := by decide +kernel
theorem dX6_init_31 : decode cX6_init 31 = .ok (.newarray .int, 2) := by decide +kernel
theorem dX6_init_33 : decode cX6_init 33 = .ok (.putfield 21, 3) := by decide +kernel
theorem dX6_init_36 : decode cX6_init 36 = .ok (.aload_n 0, 1) := by decide +kernel
theorem dX6_init_37 : decode cX6_init 37 = .ok (.bipush 10, 2) := by decide +kernel
theorem dX6_init_39 : decode cX6_init 39 = .ok (.newarray .int, 2) := by decide +kernel
theorem dX6_init_41 : decode cX6_init 41 = .ok (.putfield 24, 3) := by decide +kernel
theorem dX6_init_44 : decode cX6_init 44 = .ok (.aload_n 0, 1) := by decide +kernel
theorem dX6_init_45 : decode cX6_init 45 = .ok (.bipush 10, 2) := by decide +kernel
theorem dX6_init_47 : decode cX6_init 47 = .ok (.newarray .int, 2) := by decide +kernel
theorem dX6_init_49 : decode cX6_init 49 = .ok (.putfield 27, 3) := by decide +kernel
theorem dX6_init_52 : decode cX6_init 52 = .ok (.return_, 1) := by decide +kernel
theorem dX6_copyFrom_0 : decode cX6_copyFrom 0 = .ok (.aload_n 0, 1) := by decide +kernel
theorem dX6_copyFrom_1 : decode cX6_copyFrom 1 = .ok (.aload_n 1, 1) := by decide +kernel
theorem dX6_copyFrom_2 : decode cX6_copyFrom 2 = .ok (.getfield 30, 3) := by decide +kernel
theorem dX6_copyFrom_5 : decode cX6_copyFrom 5 = .ok (.putfield 30, 3) := by decide +kernel
theorem dX6_copyFrom_8 : decode cX6_copyFrom 8 = .ok (.aload_n 1, 1) := by decide +kernel
theorem dX6_copyFrom_9 : decode cX6_copyFrom 9 = .ok (.getfield 9, 3) := by decide +kernel
theorem dX6_copyFrom_12 : decode cX6_copyFrom 12 = .ok (.aload_n 0, 1) := by decide +kernel
theorem dX6_copyFrom_13 : decode cX6_copyFrom 13 = .ok (.getfield 9, 3) := by decide +kernel
theorem dX6_copyFrom_16 : decode cX6_copyFrom 16 = .ok (.invokestatic 34, 3) := by decide +kernel
theorem dX6_copyFrom_19 : decode cX6_copyFrom 19 = .ok (.aload_n 1, 1) := by decide +kernel
theorem dX6_copyFrom_20 : decode cX6_copyFrom 20 = .ok (.getfield 15, 3) := by decide +kernel
theorem dX6_copyFrom_23 : decode cX6_copyFrom 23 = .ok (.aload_n 0, 1) := by decide +kernel
theorem dX6_copyFrom_24 : decode cX6_copyFrom 24 = .ok (.getfield 15, 3) := by decide +kernel
theorem dX6_copyFrom_27 : decode cX6_copyFrom 27 = .ok (.invokestatic 34, 3) := by decide +kernel
theorem dX6_copyFrom_30 : decode cX6_copyFrom 30 = .ok (.aload_n 1, 1) := by decide +kernel
theorem dX6_copyFrom_31 : decode cX6_copyFrom 31 = .ok (.getfield 18, 3) := by decide +kernel
theorem dX6_copyFrom_34 : decode cX6_copyFrom 34 = .ok (.aload_n 0, 1) := by decide +kernel
theorem dX6_copyFrom_35 : decode cX6_copyFrom 35 = .ok (.getfield 18, 3) := by decide +kernel
theorem dX6_copyFrom_38 : decode cX6_copyFrom 38 = .ok (.invokestatic 34, 3) := by decide +kernel
theorem dX6_copyFrom_41 : decode cX6_copyFrom 41 = .ok (.aload_n 1, 1) := by decide +kernel
theorem dX6_copyFrom_42 : decode cX6_copyFrom 42 = .ok (.getfield 21, 3) := by decide +kernel
theorem dX6_copyFrom_45 : decode cX6_copyFrom 45 = .ok (.aload_n 0, 1) := by decide +kernel
theorem dX6_copyFrom_46 : decode cX6_copyFrom 46 = .ok (.getfield 21, 3) := by decide +kernel
theorem dX6_copyFrom_49 : decode cX6_copyFrom 49 = .ok (.invokestatic 34, 3) := by decide +kernel
theorem dX6_copyFrom_52 : decode cX6_copyFrom 52 = .ok (.aload_n 1, 1) := by decide +kernel
theorem dX6_copyFrom_53 : decode cX6_copyFrom 53 = .ok (.getfield 24, 3) := by decide +kernel
theorem dX6_copyFrom_56 : decode cX6_copyFrom 56 = .ok (.aload_n 0, 1) := by decide +kernel
theorem dX6_copyFrom_57 : decode cX6_copyFrom 57 = .ok (.getfield 24, 3) := by decide +kernel
theorem dX6_copyFrom_60 : decode cX6_copyFrom 60 = .ok (.invokestatic 34, 3) := by decide +kernel
theorem dX6_copyFrom_63 : decode cX6_copyFrom 63 = .ok (.aload_n 1, 1) := by decide +kernel
theorem dX6_copyFrom_64 : decode cX6_copyFrom 64 = .ok (.getfield 27, 3) := by decide +kernel
theorem dX6_copyFrom_67 : decode cX6_copyFrom 67 = .ok (.aload_n 0, 1) := by decide +kernel
theorem dX6_copyFrom_68 : decode cX6_copyFrom 68 = .ok (.getfield 27, 3) := by decide +kernel
theorem dX6_copyFrom_71 : decode cX6_copyFrom 71 = .ok (.invokestatic 34, 3) := by decide +kernel
theorem dX6_copyFrom_74 : decode cX6_copyFrom 74 = .ok (.return_, 1) := by decide +kernel
theorem dX6_isOrder_0 : decode cX6_isOrder 0 = .ok (.iload_n 1, 1) := by decide +kernel
theorem dX6_isOrder_1 : decode cX6_isOrder 1 = .ok (.iconst 0, 1) := by decide +kernel
theorem dX6_isOrder_2 : decode cX6_isOrder 2 = .ok (.aload_n 0, 1) := by decide +kernel
theorem dX6_isOrder_3 : decode cX6_isOrder 3 = .ok (.getfield 30, 3) := by decide +kernel
theorem dX6_isOrder_6 : decode cX6_isOrder 6 = .ok (.iconst 1, 1) := by decide +kernel
theorem dX6_isOrder_7 : decode cX6_isOrder 7 = .ok (.isub, 1) := by decide +kernel
theorem dX6_isOrder_8 : decode cX6_isOrder 8 = .ok (.invokestatic 38, 3) := by decide +kernel
theorem dX6_isOrder_11 : decode cX6_isOrder 11 = .ok (.ireturn, 1) := by decide +kernel
theorem dX6_isOpen_0 : decode cX6_isOpen 0 = .ok (.aload_n 0, 1) := by decide +kernel
theorem dX6_isOpen_1 : decode cX6_isOpen 1 = .ok (.getfield 24, 3) := by decide +kernel
theorem dX6_isOpen_4 : decode cX6_isOpen 4 = .ok (.iload_n 1, 1) := by decide +kernel
theorem dX6_isOpen_5 : decode cX6_isOpen 5 = .ok (.iaload, 1) := by decide +kernel
theorem dX6_isOpen_6 : decode cX6_isOpen 6 = .ok (.ifCond .ne 7, 3) := by decide +kernel
theorem dX6_isOpen_9 : decode cX6_isOpen 9 = .ok (.iconst 1, 1) := by decide +kernel
theorem dX6_isOpen_10 : decode cX6_isOpen 10 = .ok (.goto 4, 3) := by decide +kernel
theorem dX6_isOpen_13 : decode cX6_isOpen 13 = .ok (.iconst 0, 1) := by decide +kernel
theorem dX6_isOpen_14 : decode cX6_isOpen 14 = .ok (.ireturn, 1) := by decide +kernel
theorem dX6_add_0 : decode cX6_add 0 = .ok (.iload_n 3, 1) := by decide +kernel
theorem dX6_add_1 : decode cX6_add 1 = .ok (.iconst 1, 1) := by decide +kernel
theorem dX6_add_2 : decode cX6_add 2 = .ok (.bipush 20, 2) := by decide +kernel
theorem dX6_add_4 : decode cX6_add 4 = .ok (.invokestatic 38, 3) := by decide +kernel
theorem dX6_add_7 : decode cX6_add 7 = .ok (.ifCond .eq 14, 3) := by decide +kernel
theorem dX6_add_10 : decode cX6_add 10 = .ok (.iload 4, 2) := by decide +kernel
theorem dX6_add_12 : decode cX6_add 12 = .ok (.iconst 0, 1) := by decide +kernel
theorem dX6_add_13 : decode cX6_add 13 = .ok (.bipush 99, 2) := by decide +kernel
theorem dX6_add_15 : decode cX6_add 15 = .ok (.invokestatic 38, 3) := by decide +kernel
theorem dX6_add_18 : decode cX6_add 18 = .ok (.ifCond .ne 11, 3) := by decide +kernel
theorem dX6_add_21 : decode cX6_add 21 = .ok (.aload 5, 2) := by decide +kernel
theorem dX6_add_23 : decode cX6_add 23 = .ok (.iconst 2, 1) := by decide +kernel
theorem dX6_add_24 : decode cX6_add 24 = .ok (.iconst 0, 1) := by decide +kernel
theorem dX6_add_25 : decode cX6_add 25 = .ok (.invokevirtual 42, 3) := by decide +kernel
theorem dX6_add_28 : decode cX6_add 28 = .ok (.ireturn, 1) := by decide +kernel
theorem dX6_add_29 : decode cX6_add 29 = .ok (.aload_n 0, 1) := by decide +kernel
theorem dX6_add_30 : decode cX6_add 30 = .ok (.getfield 30, 3) := by decide +kernel
theorem dX6_add_33 : decode cX6_add 33 = .ok (.bipush 10, 2) := by decide +kernel
theorem dX6_add_35 : decode cX6_add 35 = .ok (.if_icmp .lt 11, 3) := by decide +kernel
theorem dX6_add_38 : decode cX6_add 38 = .ok (.aload 5, 2) := by decide +kernel
theorem dX6_add_40 : decode cX6_add 40 = .ok (.iconst 3, 1) := by decide +kernel
theorem dX6_add_41 : decode cX6_add 41 = .ok (.iconst 0, 1) := by decide +kernel
theorem dX6_add_42 : decode cX6_add 42 = .ok (.invokevirtual 42, 3) := by decide +kernel
theorem dX6_add_45 : decode cX6_add 45 = .ok (.ireturn, 1) := by decide +kernel
theorem dX6_add_46 : decode cX6_add 46 = .ok (.aload_n 0, 1) := by decide +kernel
theorem dX6_add_47 : decode cX6_add 47 = .ok (.getfield 9, 3) := by decide +kernel
theorem dX6_add_50 : decode cX6_add 50 = .ok (.aload_n 0, 1) := by decide +kernel
theorem dX6_add_51 : decode cX6_add 51 = .ok (.getfield 30, 3) := by decide +kernel
theorem dX6_add_54 : decode cX6_add 54 = .ok (.iload_n 1, 1) := by decide +kernel
theorem dX6_add_55 : decode cX6_add 55 = .ok (.iastore, 1) := by decide +kernel
theorem dX6_add_56 : decode cX6_add 56 = .ok (.aload_n 0, 1) := by decide +kernel
theorem dX6_add_57 : decode cX6_add 57 = .ok (.getfield 15, 3) := by decide +kernel
theorem dX6_add_60 : decode cX6_add 60 = .ok (.aload_n 0, 1) := by decide +kernel
theorem dX6_add_61 : decode cX6_add 61 = .ok (.getfield 30, 3) := by decide +kernel
theorem dX6_add_64 : decode cX6_add 64 = .ok (.iload_n 2, 1) := by decide +kernel
theorem dX6_add_65 : decode cX6_add 65 = .ok (.iastore, 1) := by decide +kernel
theorem dX6_add_66 : decode cX6_add 66 = .ok (.aload_n 0, 1) := by decide +kernel
theorem dX6_add_67 : decode cX6_add 67 = .ok (.getfield 18, 3) := by decide +kernel
theorem dX6_add_70 : decode cX6_add 70 = .ok (.aload_n 0, 1) := by decide +kernel
theorem dX6_add_71 : decode cX6_add 71 = .ok (.getfield 30, 3) := by decide +kernel
theorem dX6_add_74 : decode cX6_add 74 = .ok (.iload_n 3, 1) := by decide +kernel
theorem dX6_add_75 : decode cX6_add 75 = .ok (.iastore, 1) := by decide +kernel
theorem dX6_add_76 : decode cX6_add 76 = .ok (.aload_n 0, 1) := by decide +kernel
theorem dX6_add_77 : decode cX6_add 77 = .ok (.getfield 21, 3) := by decide +kernel
theorem dX6_add_80 : decode cX6_add 80 = .ok (.aload_n 0, 1) := by decide +kernel
theorem dX6_add_81 : decode cX6_add 81 = .ok (.getfield 30, 3) := by decide +kernel
theorem dX6_add_84 : decode cX6_add 84 = .ok (.iload 4, 2) := by decide +kernel
theorem dX6_add_86 : decode cX6_add 86 = .ok (.iastore, 1) := by decide +kernel
theorem dX6_add_87 : decode cX6_add 87 = .ok (.aload_n 0, 1) := by decide +kernel
theorem dX6_add_88 : decode cX6_add 88 = .ok (.getfield 24, 3) := by decide +kernel
theorem dX6_add_91 : decode cX6_add 91 = .ok (.aload_n 0, 1) := by decide +kernel
theorem dX6_add_92 : decode cX6_add 92 = .ok (.getfield 30, 3) := by decide +kernel
theorem dX6_add_95 : decode cX6_add 95 = .ok (.iconst 0, 1) := by decide +kernel
theorem dX6_add_96 : decode cX6_add 96 = .ok (.iastore, 1) := by decide +kernel
theorem dX6_add_97 : decode cX6_add 97 = .ok (.aload_n 0, 1) := by decide +kernel
theorem dX6_add_98 : decode cX6_add 98 = .ok (.getfield 27, 3) := by decide +kernel
theorem dX6_add_101 : decode cX6_add 101 = .ok (.aload_n 0, 1) := by decide +kernel
theorem dX6_add_102 : decode cX6_add 102 = .ok (.getfield 30, 3) := by decide +kernel
theorem dX6_add_105 : decode cX6_add 105 = .ok (.iconst 0, 1) := by decide +kernel
theorem dX6_add_106 : decode cX6_add 106 = .ok (.iastore, 1) := by decide +kernel
theorem dX6_add_107 : decode cX6_add 107 = .ok (.aload_n 0, 1) := by decide +kernel
theorem dX6_add_108 : decode cX6_add 108 = .ok (.dup, 1) := by decide +kernel
theorem dX6_add_109 : decode cX6_add 109 = .ok (.getfield 30, 3) := by decide +kernel
theorem dX6_add_112 : decode cX6_add 112 = .ok (.iconst 1, 1) := by decide +kernel
theorem dX6_add_113 : decode cX6_add 113 = .ok (.iadd, 1) := by decide +kernel
theorem dX6_add_114 : decode cX6_add 114 = .ok (.putfield 30, 3) := by decide +kernel
theorem dX6_add_117 : decode cX6_add 117 = .ok (.aload_n 0, 1) := by decide +kernel
theorem dX6_add_118 : decode cX6_add 118 = .ok (.getfield 30, 3) := by decide +kernel
theorem dX6_add_121 : decode cX6_add 121 = .ok (.iconst 1, 1) := by decide +kernel
theorem dX6_add_122 : decode cX6_add 122 = .ok (.isub, 1) := by decide +kernel
theorem dX6_add_123 : decode cX6_add 123 = .ok (.ireturn, 1) := by decide +kernel
theorem dX6_close_0 : decode cX6_close 0 = .ok (.aload_n 0, 1) := by decide +kernel
theorem dX6_close_1 : decode cX6_close 1 = .ok (.iload_n 1, 1) := by decide +kernel
theorem dX6_close_2 : decode cX6_close 2 = .ok (.invokevirtual 48, 3) := by decide +kernel
theorem dX6_close_5 : decode cX6_close 5 = .ok (.ifCond .ne 10, 3) := by decide +kernel
theorem dX6_close_8 : decode cX6_close 8 = .ok (.aload_n 2, 1) := by decide +kernel
theorem dX6_close_9 : decode cX6_close 9 = .ok (.iconst 1, 1) := by decide +kernel
theorem dX6_close_10 : decode cX6_close 10 = .ok (.iconst 0, 1) := by decide +kernel
theorem dX6_close_11 : decode cX6_close 11 = .ok (.invokevirtual 42, 3) := by decide +kernel
theorem dX6_close_14 : decode cX6_close 14 = .ok (.ireturn, 1) := by decide +kernel
theorem dX6_close_15 : decode cX6_close 15 = .ok (.aload_n 0, 1) := by decide +kernel
theorem dX6_close_16 : decode cX6_close 16 = .ok (.iload_n 1, 1) := by decide +kernel
theorem dX6_close_17 : decode cX6_close 17 = .ok (.invokevirtual 52, 3) := by decide +kernel
theorem dX6_close_20 : decode cX6_close 20 = .ok (.ifCond .ne 11, 3) := by decide +kernel
theorem dX6_close_23 : decode cX6_close 23 = .ok (.aload_n 2, 1) := by decide +kernel
theorem dX6_close_24 : decode cX6_close 24 = .ok (.bipush 9, 2) := by decide +kernel
theorem dX6_close_26 : decode cX6_close 26 = .ok (.iconst 0, 1) := by decide +kernel
theorem dX6_close_27 : decode cX6_close 27 = .ok (.invokevirtual 42, 3) := by decide +kernel
theorem dX6_close_30 : decode cX6_close 30 = .ok (.ireturn, 1) := by decide +kernel
theorem dX6_close_31 : decode cX6_close 31 = .ok (.aload_n 0, 1) := by decide +kernel
theorem dX6_close_32 : decode cX6_close 32 = .ok (.getfield 24, 3) := by decide +kernel
theorem dX6_close_35 : decode cX6_close 35 = .ok (.iload_n 1, 1) := by decide +kernel
theorem dX6_close_36 : decode cX6_close 36 = .ok (.iconst 2, 1) := by decide +kernel
theorem dX6_close_37 : decode cX6_close 37 = .ok (.iastore, 1) := by decide +kernel
theorem dX6_close_38 : decode cX6_close 38 = .ok (.aload_n 0, 1) := by decide +kernel
theorem dX6_close_39 : decode cX6_close 39 = .ok (.iconst 0, 1) := by decide +kernel
theorem dX6_close_40 : decode cX6_close 40 = .ok (.invokevirtual 55, 3) := by decide +kernel
theorem dX6_close_43 : decode cX6_close 43 = .ok (.ireturn, 1) := by decide +kernel
theorem dX6_endWeek_0 : decode cX6_endWeek 0 = .ok (.iconst 0, 1) := by decide +kernel
theorem dX6_endWeek_1 : decode cX6_endWeek 1 = .ok (.istore_n 3, 1) := by decide +kernel
theorem dX6_endWeek_2 : decode cX6_endWeek 2 = .ok (.iload_n 3, 1) := by decide +kernel
theorem dX6_endWeek_3 : decode cX6_endWeek 3 = .ok (.aload_n 0, 1) := by decide +kernel
theorem dX6_endWeek_4 : decode cX6_endWeek 4 = .ok (.getfield 30, 3) := by decide +kernel
theorem dX6_endWeek_7 : decode cX6_endWeek 7 = .ok (.if_icmp .ge 75, 3) := by decide +kernel
theorem dX6_endWeek_10 : decode cX6_endWeek 10 = .ok (.aload_n 0, 1) := by decide +kernel
theorem dX6_endWeek_11 : decode cX6_endWeek 11 = .ok (.iload_n 3, 1) := by decide +kernel
theorem dX6_endWeek_12 : decode cX6_endWeek 12 = .ok (.invokevirtual 52, 3) := by decide +kernel
theorem dX6_endWeek_15 : decode cX6_endWeek 15 = .ok (.ifCond .eq 61, 3) := by decide +kernel
theorem dX6_endWeek_18 : decode cX6_endWeek 18 = .ok (.aload_n 0, 1) := by decide +kernel
theorem dX6_endWeek_19 : decode cX6_endWeek 19 = .ok (.getfield 21, 3) := by decide +kernel
theorem dX6_endWeek_22 : decode cX6_endWeek 22 = .ok (.iload_n 3, 1) := by decide +kernel
theorem dX6_endWeek_23 : decode cX6_endWeek 23 = .ok (.iaload, 1) := by decide +kernel
theorem dX6_endWeek_24 : decode cX6_endWeek 24 = .ok (.iload_n 1, 1) := by decide +kernel
theorem dX6_endWeek_25 : decode cX6_endWeek 25 = .ok (.if_icmp .le 6, 3) := by decide +kernel
theorem dX6_endWeek_28 : decode cX6_endWeek 28 = .ok (.goto 48, 3) := by decide +kernel
theorem dX6_endWeek_31 : decode cX6_endWeek 31 = .ok (.aload_n 2, 1) := by decide +kernel
theorem dX6_endWeek_32 : decode cX6_endWeek 32 = .ok (.aload_n 0, 1) := by decide +kernel
theorem dX6_endWeek_33 : decode cX6_endWeek 33 = .ok (.getfield 9, 3) := by decide +kernel
theorem dX6_endWeek_36 : decode cX6_endWeek 36 = .ok (.iload_n 3, 1) := by decide +kernel
theorem dX6_endWeek_37 : decode cX6_endWeek 37 = .ok (.iaload, 1) := by decide +kernel
theorem dX6_endWeek_38 : decode cX6_endWeek 38 = .ok (.aload_n 0, 1) := by decide +kernel
theorem dX6_endWeek_39 : decode cX6_endWeek 39 = .ok (.getfield 15, 3) := by decide +kernel
theorem dX6_endWeek_42 : decode cX6_endWeek 42 = .ok (.iload_n 3, 1) := by decide +kernel
theorem dX6_endWeek_43 : decode cX6_endWeek 43 = .ok (.iaload, 1) := by decide +kernel
theorem dX6_endWeek_44 : decode cX6_endWeek 44 = .ok (.aload_n 0, 1) := by decide +kernel
theorem dX6_endWeek_45 : decode cX6_endWeek 45 = .ok (.getfield 18, 3) := by decide +kernel
theorem dX6_endWeek_48 : decode cX6_endWeek 48 = .ok (.iload_n 3, 1) := by decide +kernel
theorem dX6_endWeek_49 : decode cX6_endWeek 49 = .ok (.iaload, 1) := by decide +kernel
theorem dX6_endWeek_50 : decode cX6_endWeek 50 = .ok (.invokevirtual 59, 3) := by decide +kernel
theorem dX6_endWeek_53 : decode cX6_endWeek 53 = .ok (.ifCond .eq 13, 3) := by decide +kernel
theorem dX6_endWeek_56 : decode cX6_endWeek 56 = .ok (.aload_n 0, 1) := by decide +kernel
theorem dX6_endWeek_57 : decode cX6_endWeek 57 = .ok (.getfield 24, 3) := by decide +kernel
theorem dX6_endWeek_60 : decode cX6_endWeek 60 = .ok (.iload_n 3, 1) := by decide +kernel
theorem dX6_endWeek_61 : decode cX6_endWeek 61 = .ok (.iconst 1, 1) := by decide +kernel
theorem dX6_endWeek_62 : decode cX6_endWeek 62 = .ok (.iastore, 1) := by decide +kernel
theorem dX6_endWeek_63 : decode cX6_endWeek 63 = .ok (.goto 13, 3) := by decide +kernel
theorem dX6_endWeek_66 : decode cX6_endWeek 66 = .ok (.aload_n 0, 1) := by decide +kernel
theorem dX6_endWeek_67 : decode cX6_endWeek 67 = .ok (.getfield 27, 3) := by decide +kernel
theorem dX6_endWeek_70 : decode cX6_endWeek 70 = .ok (.iload_n 3, 1) := by decide +kernel
theorem dX6_endWeek_71 : decode cX6_endWeek 71 = .ok (.dup2, 1) := by decide +kernel
theorem dX6_endWeek_72 : decode cX6_endWeek 72 = .ok (.iaload, 1) := by decide +kernel
theorem dX6_endWeek_73 : decode cX6_endWeek 73 = .ok (.iconst 1, 1) := by decide +kernel
theorem dX6_endWeek_74 : decode cX6_endWeek 74 = .ok (.iadd, 1) := by decide +kernel
theorem dX6_endWeek_75 : decode cX6_endWeek 75 = .ok (.iastore, 1) := by decide +kernel
theorem dX6_endWeek_76 : decode cX6_endWeek 76 = .ok (.iinc 3 1, 3) := by decide +kernel
theorem dX6_endWeek_79 : decode cX6_endWeek 79 = .ok (.goto (-77), 3) := by decide +kernel
theorem dX6_endWeek_82 : decode cX6_endWeek 82 = .ok (.return_, 1) := by decide +kernel
theorem dX6_countOf_0 : decode cX6_countOf 0 = .ok (.iconst 0, 1) := by decide +kernel
theorem dX6_countOf_1 : decode cX6_countOf 1 = .ok (.istore_n 2, 1) := by decide +kernel
theorem dX6_countOf_2 : decode cX6_countOf 2 = .ok (.iconst 0, 1) := by decide +kernel
theorem dX6_countOf_3 : decode cX6_countOf 3 = .ok (.istore_n 3, 1) := by decide +kernel
theorem dX6_countOf_4 : decode cX6_countOf 4 = .ok (.iload_n 3, 1) := by decide +kernel
theorem dX6_countOf_5 : decode cX6_countOf 5 = .ok (.aload_n 0, 1) := by decide +kernel
theorem dX6_countOf_6 : decode cX6_countOf 6 = .ok (.getfield 30, 3) := by decide +kernel
theorem dX6_countOf_9 : decode cX6_countOf 9 = .ok (.if_icmp .ge 27, 3) := by decide +kernel
theorem dX6_countOf_12 : decode cX6_countOf 12 = .ok (.iload_n 2, 1) := by decide +kernel
theorem dX6_countOf_13 : decode cX6_countOf 13 = .ok (.aload_n 0, 1) := by decide +kernel
theorem dX6_countOf_14 : decode cX6_countOf 14 = .ok (.getfield 24, 3) := by decide +kernel
theorem dX6_countOf_17 : decode cX6_countOf 17 = .ok (.iload_n 3, 1) := by decide +kernel
theorem dX6_countOf_18 : decode cX6_countOf 18 = .ok (.iaload, 1) := by decide +kernel
theorem dX6_countOf_19 : decode cX6_countOf 19 = .ok (.iload_n 1, 1) := by decide +kernel
theorem dX6_countOf_20 : decode cX6_countOf 20 = .ok (.if_icmp .ne 7, 3) := by decide +kernel
theorem dX6_countOf_23 : decode cX6_countOf 23 = .ok (.iconst 1, 1) := by decide +kernel
theorem dX6_countOf_24 : decode cX6_countOf 24 = .ok (.goto 4, 3) := by decide +kernel
theorem dX6_countOf_27 : decode cX6_countOf 27 = .ok (.iconst 0, 1) := by decide +kernel
theorem dX6_countOf_28 : decode cX6_countOf 28 = .ok (.iadd, 1) := by decide +kernel
theorem dX6_countOf_29 : decode cX6_countOf 29 = .ok (.istore_n 2, 1) := by decide +kernel
theorem dX6_countOf_30 : decode cX6_countOf 30 = .ok (.iinc 3 1, 3) := by decide +kernel
theorem dX6_countOf_33 : decode cX6_countOf 33 = .ok (.goto (-29), 3) := by decide +kernel
theorem dX6_countOf_36 : decode cX6_countOf 36 = .ok (.iload_n 2, 1) := by decide +kernel
theorem dX6_countOf_37 : decode cX6_countOf 37 = .ok (.ireturn, 1) := by decide +kernel
theorem dX6_lateWeeksOfDelivered_0 : decode cX6_lateWeeksOfDelivered 0 = .ok (.iconst 0, 1) := by decide +kernel
theorem dX6_lateWeeksOfDelivered_1 : decode cX6_lateWeeksOfDelivered 1 = .ok (.istore_n 1, 1) := by decide +kernel
theorem dX6_lateWeeksOfDelivered_2 : decode cX6_lateWeeksOfDelivered 2 = .ok (.iconst 0, 1) := by decide +kernel
theorem dX6_lateWeeksOfDelivered_3 : decode cX6_lateWeeksOfDelivered 3 = .ok (.istore_n 2, 1) := by decide +kernel
theorem dX6_lateWeeksOfDelivered_4 : decode cX6_lateWeeksOfDelivered 4 = .ok (.iload_n 2, 1) := by decide +kernel
theorem dX6_lateWeeksOfDelivered_5 : decode cX6_lateWeeksOfDelivered 5 = .ok (.aload_n 0, 1) := by decide +kernel
theorem dX6_lateWeeksOfDelivered_6 : decode cX6_lateWeeksOfDelivered 6 = .ok (.getfield 30, 3) := by decide +kernel
theorem dX6_lateWeeksOfDelivered_9 : decode cX6_lateWeeksOfDelivered 9 = .ok (.if_icmp .ge 32, 3) := by decide +kernel
theorem dX6_lateWeeksOfDelivered_12 : decode cX6_lateWeeksOfDelivered 12 = .ok (.iload_n 1, 1) := by decide +kernel
theorem dX6_lateWeeksOfDelivered_13 : decode cX6_lateWeeksOfDelivered 13 = .ok (.aload_n 0, 1) := by decide +kernel
theorem dX6_lateWeeksOfDelivered_14 : decode cX6_lateWeeksOfDelivered 14 = .ok (.getfield 24, 3) := by decide +kernel
theorem dX6_lateWeeksOfDelivered_17 : decode cX6_lateWeeksOfDelivered 17 = .ok (.iload_n 2, 1) := by decide +kernel
theorem dX6_lateWeeksOfDelivered_18 : decode cX6_lateWeeksOfDelivered 18 = .ok (.iaload, 1) := by decide +kernel
theorem dX6_lateWeeksOfDelivered_19 : decode cX6_lateWeeksOfDelivered 19 = .ok (.iconst 1, 1) := by decide +kernel
theorem dX6_lateWeeksOfDelivered_20 : decode cX6_lateWeeksOfDelivered 20 = .ok (.if_icmp .ne 12, 3) := by decide +kernel
theorem dX6_lateWeeksOfDelivered_23 : decode cX6_lateWeeksOfDelivered 23 = .ok (.aload_n 0, 1) := by decide +kernel
theorem dX6_lateWeeksOfDelivered_24 : decode cX6_lateWeeksOfDelivered 24 = .ok (.getfield 27, 3) := by decide +kernel
theorem dX6_lateWeeksOfDelivered_27 : decode cX6_lateWeeksOfDelivered 27 = .ok (.iload_n 2, 1) := by decide +kernel
theorem dX6_lateWeeksOfDelivered_28 : decode cX6_lateWeeksOfDelivered 28 = .ok (.iaload, 1) := by decide +kernel
theorem dX6_lateWeeksOfDelivered_29 : decode cX6_lateWeeksOfDelivered 29 = .ok (.goto 4, 3) := by decide +kernel
theorem dX6_lateWeeksOfDelivered_32 : decode cX6_lateWeeksOfDelivered 32 = .ok (.iconst 0, 1) := by decide +kernel
theorem dX6_lateWeeksOfDelivered_33 : decode cX6_lateWeeksOfDelivered 33 = .ok (.iadd, 1) := by decide +kernel
theorem dX6_lateWeeksOfDelivered_34 : decode cX6_lateWeeksOfDelivered 34 = .ok (.istore_n 1, 1) := by decide +kernel
theorem dX6_lateWeeksOfDelivered_35 : decode cX6_lateWeeksOfDelivered 35 = .ok (.iinc 2 1, 3) := by decide +kernel
theorem dX6_lateWeeksOfDelivered_38 : decode cX6_lateWeeksOfDelivered 38 = .ok (.goto (-34), 3) := by decide +kernel
theorem dX6_lateWeeksOfDelivered_41 : decode cX6_lateWeeksOfDelivered 41 = .ok (.iload_n 1, 1) := by decide +kernel
theorem dX6_lateWeeksOfDelivered_42 : decode cX6_lateWeeksOfDelivered 42 = .ok (.ireturn, 1) := by decide +kernel
theorem dX6_openUpTo_0 : decode cX6_openUpTo 0 = .ok (.iconst 0, 1) := by decide +kernel
theorem dX6_openUpTo_1 : decode cX6_openUpTo 1 = .ok (.istore_n 2, 1) := by decide +kernel
theorem dX6_openUpTo_2 : decode cX6_openUpTo 2 = .ok (.iconst 0, 1) := by decide +kernel
theorem dX6_openUpTo_3 : decode cX6_openUpTo 3 = .ok (.istore_n 3, 1) := by decide +kernel
theorem dX6_openUpTo_4 : decode cX6_openUpTo 4 = .ok (.iload_n 3, 1) := by decide +kernel
theorem dX6_openUpTo_5 : decode cX6_openUpTo 5 = .ok (.aload_n 0, 1) := by decide +kernel
theorem dX6_openUpTo_6 : decode cX6_openUpTo 6 = .ok (.getfield 30, 3) := by decide +kernel
theorem dX6_openUpTo_9 : decode cX6_openUpTo 9 = .ok (.if_icmp .ge 37, 3) := by decide +kernel
theorem dX6_openUpTo_12 : decode cX6_openUpTo 12 = .ok (.iload_n 2, 1) := by decide +kernel
theorem dX6_openUpTo_13 : decode cX6_openUpTo 13 = .ok (.aload_n 0, 1) := by decide +kernel
theorem dX6_openUpTo_14 : decode cX6_openUpTo 14 = .ok (.iload_n 3, 1) := by decide +kernel
theorem dX6_openUpTo_15 : decode cX6_openUpTo 15 = .ok (.invokevirtual 52, 3) := by decide +kernel
theorem dX6_openUpTo_18 : decode cX6_openUpTo 18 = .ok (.ifCond .eq 19, 3) := by decide +kernel
theorem dX6_openUpTo_21 : decode cX6_openUpTo 21 = .ok (.aload_n 0, 1) := by decide +kernel
theorem dX6_openUpTo_22 : decode cX6_openUpTo 22 = .ok (.getfield 21, 3) := by decide +kernel
theorem dX6_openUpTo_25 : decode cX6_openUpTo 25 = .ok (.iload_n 3, 1) := by decide +kernel
theorem dX6_openUpTo_26 : decode cX6_openUpTo 26 = .ok (.iaload, 1) := by decide +kernel
theorem dX6_openUpTo_27 : decode cX6_openUpTo 27 = .ok (.iload_n 1, 1) := by decide +kernel
theorem dX6_openUpTo_28 : decode cX6_openUpTo 28 = .ok (.if_icmp .gt 9, 3) := by decide +kernel
theorem dX6_openUpTo_31 : decode cX6_openUpTo 31 = .ok (.iconst 1, 1) := by decide +kernel
theorem dX6_openUpTo_32 : decode cX6_openUpTo 32 = .ok (.iload_n 3, 1) := by decide +kernel
theorem dX6_openUpTo_33 : decode cX6_openUpTo 33 = .ok (.ishl, 1) := by decide +kernel
theorem dX6_openUpTo_34 : decode cX6_openUpTo 34 = .ok (.goto 4, 3) := by decide +kernel
theorem dX6_openUpTo_37 : decode cX6_openUpTo 37 = .ok (.iconst 0, 1) := by decide +kernel
theorem dX6_openUpTo_38 : decode cX6_openUpTo 38 = .ok (.ior, 1) := by decide +kernel
theorem dX6_openUpTo_39 : decode cX6_openUpTo 39 = .ok (.istore_n 2, 1) := by decide +kernel
theorem dX6_openUpTo_40 : decode cX6_openUpTo 40 = .ok (.iinc 3 1, 3) := by decide +kernel
theorem dX6_openUpTo_43 : decode cX6_openUpTo 43 = .ok (.goto (-39), 3) := by decide +kernel
theorem dX6_openUpTo_46 : decode cX6_openUpTo 46 = .ok (.iload_n 2, 1) := by decide +kernel
theorem dX6_openUpTo_47 : decode cX6_openUpTo 47 = .ok (.ireturn, 1) := by decide +kernel
theorem dX7_init_0 : decode cX7_init 0 = .ok (.aload_n 0, 1) := by decide +kernel
theorem dX7_init_1 : decode cX7_init 1 = .ok (.invokespecial 3, 3) := by decide +kernel
theorem dX7_init_4 : decode cX7_init 4 = .ok (.aload_n 0, 1) := by decide +kernel
theorem dX7_init_5 : decode cX7_init 5 = .ok (.bipush 40, 2) := by decide +kernel
theorem dX7_init_7 : decode cX7_init 7 = .ok (.newarray .int, 2) := by decide +kernel
theorem dX7_init_9 : decode cX7_init 9 = .ok (.putfield 11, 3) := by decide +kernel
theorem dX7_init_12 : decode cX7_init 12 = .ok (.aload_n 0, 1) := by decide +kernel
theorem dX7_init_13 : decode cX7_init 13 = .ok (.bipush 120, 2) := by decide +kernel
theorem dX7_init_15 : decode cX7_init 15 = .ok (.newarray .int, 2) := by decide +kernel
theorem dX7_init_17 : decode cX7_init 17 = .ok (.putfield 15, 3) := by decide +kernel
theorem dX7_init_20 : decode cX7_init 20 = .ok (.return_, 1) := by decide +kernel
theorem dX7_isReadFrom_0 : decode cX7_isReadFrom 0 = .ok (.aload_n 1, 1) := by decide +kernel
theorem dX7_isReadFrom_1 : decode cX7_isReadFrom 1 = .ok (.invokevirtual 18, 3) := by decide +kernel
theorem dX7_isReadFrom_4 : decode cX7_isReadFrom 4 = .ok (.aload_n 0, 1) := by decide +kernel
theorem dX7_isReadFrom_5 : decode cX7_isReadFrom 5 = .ok (.iconst 0, 1) := by decide +kernel
theorem dX7_isReadFrom_6 : decode cX7_isReadFrom 6 = .ok (.putfield 23, 3) := by decide +kernel
theorem dX7_isReadFrom_9 : decode cX7_isReadFrom 9 = .ok (.aload_n 1, 1) := by decide +kernel
theorem dX7_isReadFrom_10 : decode cX7_isReadFrom 10 = .ok (.aload_n 0, 1) := by decide +kernel
theorem dX7_isReadFrom_11 : decode cX7_isReadFrom 11 = .ok (.aload_n 1, 1) := by decide +kernel
theorem dX7_isReadFrom_12 : decode cX7_isReadFrom 12 = .ok (.invokevirtual 27, 3) := by decide +kernel
theorem dX7_isReadFrom_15 : decode cX7_isReadFrom 15 = .ok (.invokevirtual 31, 3) := by decide +kernel
theorem dX7_isReadFrom_18 : decode cX7_isReadFrom 18 = .ok (.ireturn, 1) := by decide +kernel
theorem dX7_areCommandsRead_0 : decode cX7_areCommandsRead 0 = .ok (.iconst 0, 1) := by decide +kernel
theorem dX7_areCommandsRead_1 : decode cX7_areCommandsRead 1 = .ok (.istore_n 2, 1) := by decide +kernel
theorem dX7_areCommandsRead_2 : decode cX7_areCommandsRead 2 = .ok (.iload_n 2, 1) := by decide +kernel
theorem dX7_areCommandsRead_3 : decode cX7_areCommandsRead 3 = .ok (.bipush 40, 2) := by decide +kernel
theorem dX7_areCommandsRead_5 : decode cX7_areCommandsRead 5 = .ok (.if_icmp .ge 49, 3) := by decide +kernel
theorem dX7_areCommandsRead_8 : decode cX7_areCommandsRead 8 = .ok (.iload_n 2, 1) := by decide +kernel
theorem dX7_areCommandsRead_9 : decode cX7_areCommandsRead 9 = .ok (.ifCond .le 12, 3) := by decide +kernel
theorem dX7_areCommandsRead_12 : decode cX7_areCommandsRead 12 = .ok (.aload_n 1, 1) := by decide +kernel
theorem dX7_areCommandsRead_13 : decode cX7_areCommandsRead 13 = .ok (.bipush 59, 2) := by decide +kernel
theorem dX7_areCommandsRead_15 : decode cX7_areCommandsRead 15 = .ok (.invokevirtual 35, 3) := by decide +kernel
theorem dX7_areCommandsRead_18 : decode cX7_areCommandsRead 18 = .ok (.ifCond .eq 12, 3) := by decide +kernel
theorem dX7_areCommandsRead_21 : decode cX7_areCommandsRead 21 = .ok (.aload_n 0, 1) := by decide +kernel
theorem dX7_areCommandsRead_22 : decode cX7_areCommandsRead 22 = .ok (.aload_n 1, 1) := by decide +kernel
theorem dX7_areCommandsRead_23 : decode cX7_areCommandsRead 23 = .ok (.iload_n 2, 1) := by decide +kernel
theorem dX7_areCommandsRead_24 : decode cX7_areCommandsRead 24 = .ok (.invokevirtual 39, 3) := by decide +kernel
theorem dX7_areCommandsRead_27 : decode cX7_areCommandsRead 27 = .ok (.ifCond .ne 5, 3) := by decide +kernel
theorem dX7_areCommandsRead_30 : decode cX7_areCommandsRead 30 = .ok (.iconst 0, 1) := by decide +kernel
theorem dX7_areCommandsRead_31 : decode cX7_areCommandsRead 31 = .ok (.ireturn, 1) := by decide +kernel
theorem dX7_areCommandsRead_32 : decode cX7_areCommandsRead 32 = .ok (.aload_n 0, 1) := by decide +kernel
theorem dX7_areCommandsRead_33 : decode cX7_areCommandsRead 33 = .ok (.iload_n 2, 1) := by decide +kernel
theorem dX7_areCommandsRead_34 : decode cX7_areCommandsRead 34 = .ok (.iconst 1, 1) := by decide +kernel
theorem dX7_areCommandsRead_35 : decode cX7_areCommandsRead 35 = .ok (.iadd, 1) := by decide +kernel
theorem dX7_areCommandsRead_36 : decode cX7_areCommandsRead 36 = .ok (.putfield 23, 3) := by decide +kernel
theorem dX7_areCommandsRead_39 : decode cX7_areCommandsRead 39 = .ok (.aload_n 1, 1) := by decide +kernel
theorem dX7_areCommandsRead_40 : decode cX7_areCommandsRead 40 = .ok (.invokevirtual 43, 3) := by decide +kernel
theorem dX7_areCommandsRead_43 : decode cX7_areCommandsRead 43 = .ok (.ifCond .eq 5, 3) := by decide +kernel
theorem dX7_areCommandsRead_46 : decode cX7_areCommandsRead 46 = .ok (.iconst 1, 1) := by decide +kernel
theorem dX7_areCommandsRead_47 : decode cX7_areCommandsRead 47 = .ok (.ireturn, 1) := by decide +kernel
theorem dX7_areCommandsRead_48 : decode cX7_areCommandsRead 48 = .ok (.iinc 2 1, 3) := by decide +kernel
theorem dX7_areCommandsRead_51 : decode cX7_areCommandsRead 51 = .ok (.goto (-49), 3) := by decide +kernel
theorem dX7_areCommandsRead_54 : decode cX7_areCommandsRead 54 = .ok (.iconst 0, 1) := by decide +kernel
theorem dX7_areCommandsRead_55 : decode cX7_areCommandsRead 55 = .ok (.ireturn, 1) := by decide +kernel
theorem dX7_isCommandRead_0 : decode cX7_isCommandRead 0 = .ok (.aload_n 1, 1) := by decide +kernel
theorem dX7_isCommandRead_1 : decode cX7_isCommandRead 1 = .ok (.bipush 109, 2) := by decide +kernel
theorem dX7_isCommandRead_3 : decode cX7_isCommandRead 3 = .ok (.invokevirtual 35, 3) := by decide +kernel
theorem dX7_isCommandRead_6 : decode cX7_isCommandRead 6 = .ok (.ifCond .eq 19, 3) := by decide +kernel
theorem dX7_isCommandRead_9 : decode cX7_isCommandRead 9 = .ok (.aload_n 0, 1) := by decide +kernel
theorem dX7_isCommandRead_10 : decode cX7_isCommandRead 10 = .ok (.getfield 11, 3) := by decide +kernel
theorem dX7_isCommandRead_13 : decode cX7_isCommandRead 13 = .ok (.iload_n 2, 1) := by decide +kernel
theorem dX7_isCommandRead_14 : decode cX7_isCommandRead 14 = .ok (.iconst 0, 1) := by decide +kernel
theorem dX7_isCommandRead_15 : decode cX7_isCommandRead 15 = .ok (.iastore, 1) := by decide +kernel
theorem dX7_isCommandRead_16 : decode cX7_isCommandRead 16 = .ok (.aload_n 0, 1) := by decide +kernel
theorem dX7_isCommandRead_17 : decode cX7_isCommandRead 17 = .ok (.aload_n 1, 1) := by decide +kernel
theorem dX7_isCommandRead_18 : decode cX7_isCommandRead 18 = .ok (.iload_n 2, 1) := by decide +kernel
theorem dX7_isCommandRead_19 : decode cX7_isCommandRead 19 = .ok (.iconst 0, 1) := by decide +kernel
theorem dX7_isCommandRead_20 : decode cX7_isCommandRead 20 = .ok (.iconst 1, 1) := by decide +kernel
theorem dX7_isCommandRead_21 : decode cX7_isCommandRead 21 = .ok (.invokevirtual 47, 3) := by decide +kernel
theorem dX7_isCommandRead_24 : decode cX7_isCommandRead 24 = .ok (.ireturn, 1) := by decide +kernel
theorem dX7_isCommandRead_25 : decode cX7_isCommandRead 25 = .ok (.aload_n 1, 1) := by decide +kernel
theorem dX7_isCommandRead_26 : decode cX7_isCommandRead 26 = .ok (.bipush 114, 2) := by decide +kernel
theorem dX7_isCommandRead_28 : decode cX7_isCommandRead 28 = .ok (.invokevirtual 35, 3) := by decide +kernel
theorem dX7_isCommandRead_31 : decode cX7_isCommandRead 31 = .ok (.ifCond .eq 47, 3) := by decide +kernel
theorem dX7_isCommandRead_34 : decode cX7_isCommandRead 34 = .ok (.aload_n 0, 1) := by decide +kernel
theorem dX7_isCommandRead_35 : decode cX7_isCommandRead 35 = .ok (.getfield 11, 3) := by decide +kernel
theorem dX7_isCommandRead_38 : decode cX7_isCommandRead 38 = .ok (.iload_n 2, 1) := by decide +kernel
theorem dX7_isCommandRead_39 : decode cX7_isCommandRead 39 = .ok (.iconst 1, 1) := by decide +kernel
theorem dX7_isCommandRead_40 : decode cX7_isCommandRead 40 = .ok (.iastore, 1) := by decide +kernel
theorem dX7_isCommandRead_41 : decode cX7_isCommandRead 41 = .ok (.aload_n 0, 1) := by decide +kernel
theorem dX7_isCommandRead_42 : decode cX7_isCommandRead 42 = .ok (.aload_n 1, 1) := by decide +kernel
theorem dX7_isCommandRead_43 : decode cX7_isCommandRead 43 = .ok (.iload_n 2, 1) := by decide +kernel
theorem dX7_isCommandRead_44 : decode cX7_isCommandRead 44 = .ok (.iconst 0, 1) := by decide +kernel
theorem dX7_isCommandRead_45 : decode cX7_isCommandRead 45 = .ok (.iconst 1, 1) := by decide +kernel
theorem dX7_isCommandRead_46 : decode cX7_isCommandRead 46 = .ok (.invokevirtual 47, 3) := by decide +kernel
theorem dX7_isCommandRead_49 : decode cX7_isCommandRead 49 = .ok (.ifCond .eq 27, 3) := by decide +kernel
theorem dX7_isCommandRead_52 : decode cX7_isCommandRead 52 = .ok (.aload_n 1, 1) := by decide +kernel
theorem dX7_isCommandRead_53 : decode cX7_isCommandRead 53 = .ok (.bipush 120, 2) := by decide +kernel
theorem dX7_isCommandRead_55 : decode cX7_isCommandRead 55 = .ok (.invokevirtual 35, 3) := by decide +kernel
theorem dX7_isCommandRead_58 : decode cX7_isCommandRead 58 = .ok (.ifCond .eq 18, 3) := by decide +kernel
theorem dX7_isCommandRead_61 : decode cX7_isCommandRead 61 = .ok (.aload_n 0, 1) := by decide +kernel
theorem dX7_isCommandRead_62 : decode cX7_isCommandRead 62 = .ok (.aload_n 1, 1) := by decide +kernel
theorem dX7_isCommandRead_63 : decode cX7_isCommandRead 63 = .ok (.iload_n 2, 1) := by decide +kernel
theorem dX7_isCommandRead_64 : decode cX7_isCommandRead 64 = .ok (.iconst 1, 1) := by decide +kernel
theorem dX7_isCommandRead_65 : decode cX7_isCommandRead 65 = .ok (.iconst 3, 1) := by decide +kernel
theorem dX7_isCommandRead_66 : decode cX7_isCommandRead 66 = .ok (.invokevirtual 47, 3) := by decide +kernel
theorem dX7_isCommandRead_69 : decode cX7_isCommandRead 69 = .ok (.ifCond .eq 7, 3) := by decide +kernel
theorem dX7_isCommandRead_72 : decode cX7_isCommandRead 72 = .ok (.iconst 1, 1) := by decide +kernel
theorem dX7_isCommandRead_73 : decode cX7_isCommandRead 73 = .ok (.goto 4, 3) := by decide +kernel
theorem dX7_isCommandRead_76 : decode cX7_isCommandRead 76 = .ok (.iconst 0, 1) := by decide +kernel
theorem dX7_isCommandRead_77 : decode cX7_isCommandRead 77 = .ok (.ireturn, 1) := by decide +kernel
theorem dX7_isCommandRead_78 : decode cX7_isCommandRead 78 = .ok (.aload_n 1, 1) := by decide +kernel
theorem dX7_isCommandRead_79 : decode cX7_isCommandRead 79 = .ok (.bipush 119, 2) := by decide +kernel
theorem dX7_isCommandRead_81 : decode cX7_isCommandRead 81 = .ok (.invokevirtual 35, 3) := by decide +kernel
theorem dX7_isCommandRead_84 : decode cX7_isCommandRead 84 = .ok (.ifCond .eq 19, 3) := by decide +kernel
theorem dX7_isCommandRead_87 : decode cX7_isCommandRead 87 = .ok (.aload_n 0, 1) := by decide +kernel
theorem dX7_isCommandRead_88 : decode cX7_isCommandRead 88 = .ok (.getfield 11, 3) := by decide +kernel
theorem dX7_isCommandRead_91 : decode cX7_isCommandRead 91 = .ok (.iload_n 2, 1) := by decide +kernel
theorem dX7_isCommandRead_92 : decode cX7_isCommandRead 92 = .ok (.iconst 2, 1) := by decide +kernel
theorem dX7_isCommandRead_93 : decode cX7_isCommandRead 93 = .ok (.iastore, 1) := by decide +kernel
theorem dX7_isCommandRead_94 : decode cX7_isCommandRead 94 = .ok (.aload_n 0, 1) := by decide +kernel
theorem dX7_isCommandRead_95 : decode cX7_isCommandRead 95 = .ok (.aload_n 1, 1) := by decide +kernel
theorem dX7_isCommandRead_96 : decode cX7_isCommandRead 96 = .ok (.iload_n 2, 1) := by decide +kernel
theorem dX7_isCommandRead_97 : decode cX7_isCommandRead 97 = .ok (.iconst 0, 1) := by decide +kernel
theorem dX7_isCommandRead_98 : decode cX7_isCommandRead 98 = .ok (.iconst 3, 1) := by decide +kernel
theorem dX7_isCommandRead_99 : decode cX7_isCommandRead 99 = .ok (.invokevirtual 47, 3) := by decide +kernel
theorem dX7_isCommandRead_102 : decode cX7_isCommandRead 102 = .ok (.ireturn, 1) := by decide +kernel
theorem dX7_isCommandRead_103 : decode cX7_isCommandRead 103 = .ok (.aload_n 1, 1) := by decide +kernel
theorem dX7_isCommandRead_104 : decode cX7_isCommandRead 104 = .ok (.bipush 108, 2) := by decide +kernel
theorem dX7_isCommandRead_106 : decode cX7_isCommandRead 106 = .ok (.invokevirtual 35, 3) := by decide +kernel
theorem dX7_isCommandRead_109 : decode cX7_isCommandRead 109 = .ok (.ifCond .eq 68, 3) := by decide +kernel
theorem dX7_isCommandRead_112 : decode cX7_isCommandRead 112 = .ok (.aload_n 0, 1) := by decide +kernel
theorem dX7_isCommandRead_113 : decode cX7_isCommandRead 113 = .ok (.getfield 11, 3) := by decide +kernel
theorem dX7_isCommandRead_116 : decode cX7_isCommandRead 116 = .ok (.iload_n 2, 1) := by decide +kernel
theorem dX7_isCommandRead_117 : decode cX7_isCommandRead 117 = .ok (.iconst 3, 1) := by decide +kernel
theorem dX7_isCommandRead_118 : decode cX7_isCommandRead 118 = .ok (.iastore, 1) := by decide +kernel
theorem dX7_isCommandRead_119 : decode cX7_isCommandRead 119 = .ok (.aload_n 0, 1) := by decide +kernel
theorem dX7_isCommandRead_120 : decode cX7_isCommandRead 120 = .ok (.aload_n 1, 1) := by decide +kernel
theorem dX7_isCommandRead_121 : decode cX7_isCommandRead 121 = .ok (.iload_n 2, 1) := by decide +kernel
theorem dX7_isCommandRead_122 : decode cX7_isCommandRead 122 = .ok (.iconst 0, 1) := by decide +kernel
theorem dX7_isCommandRead_123 : decode cX7_isCommandRead 123 = .ok (.iconst 1, 1) := by decide +kernel
theorem dX7_isCommandRead_124 : decode cX7_isCommandRead 124 = .ok (.invokevirtual 47, 3) := by decide +kernel
theorem dX7_isCommandRead_127 : decode cX7_isCommandRead 127 = .ok (.ifCond .eq 18, 3) := by decide +kernel
theorem dX7_isCommandRead_130 : decode cX7_isCommandRead 130 = .ok (.aload_n 0, 1) := by decide +kernel
theorem dX7_isCommandRead_131 : decode cX7_isCommandRead 131 = .ok (.aload_n 1, 1) := by decide +kernel
theorem dX7_isCommandRead_132 : decode cX7_isCommandRead 132 = .ok (.iload_n 2, 1) := by decide +kernel
theorem dX7_isCommandRead_133 : decode cX7_isCommandRead 133 = .ok (.iconst 1, 1) := by decide +kernel
theorem dX7_isCommandRead_134 : decode cX7_isCommandRead 134 = .ok (.iconst 1, 1) := by decide +kernel
theorem dX7_isCommandRead_135 : decode cX7_isCommandRead 135 = .ok (.invokevirtual 47, 3) := by decide +kernel
theorem dX7_isCommandRead_138 : decode cX7_isCommandRead 138 = .ok (.ifCond .eq 7, 3) := by decide +kernel
theorem dX7_isCommandRead_141 : decode cX7_isCommandRead 141 = .ok (.iconst 1, 1) := by decide +kernel
theorem dX7_isCommandRead_142 : decode cX7_isCommandRead 142 = .ok (.goto 4, 3) := by decide +kernel
theorem dX7_isCommandRead_145 : decode cX7_isCommandRead 145 = .ok (.iconst 0, 1) := by decide +kernel
theorem dX7_isCommandRead_146 : decode cX7_isCommandRead 146 = .ok (.istore_n 3, 1) := by decide +kernel
theorem dX7_isCommandRead_147 : decode cX7_isCommandRead 147 = .ok (.iload_n 3, 1) := by decide +kernel
theorem dX7_isCommandRead_148 : decode cX7_isCommandRead 148 = .ok (.ifCond .eq 27, 3) := by decide +kernel
theorem dX7_isCommandRead_151 : decode cX7_isCommandRead 151 = .ok (.aload_n 1, 1) := by decide +kernel
theorem dX7_isCommandRead_152 : decode cX7_isCommandRead 152 = .ok (.bipush 103, 2) := by decide +kernel
theorem dX7_isCommandRead_154 : decode cX7_isCommandRead 154 = .ok (.invokevirtual 35, 3) := by decide +kernel
theorem dX7_isCommandRead_157 : decode cX7_isCommandRead 157 = .ok (.ifCond .eq 18, 3) := by decide +kernel
theorem dX7_isCommandRead_160 : decode cX7_isCommandRead 160 = .ok (.aload_n 0, 1) := by decide +kernel
theorem dX7_isCommandRead_161 : decode cX7_isCommandRead 161 = .ok (.aload_n 1, 1) := by decide +kernel
theorem dX7_isCommandRead_162 : decode cX7_isCommandRead 162 = .ok (.iload_n 2, 1) := by decide +kernel
theorem dX7_isCommandRead_163 : decode cX7_isCommandRead 163 = .ok (.iconst 2, 1) := by decide +kernel
theorem dX7_isCommandRead_164 : decode cX7_isCommandRead 164 = .ok (.iconst 5, 1) := by decide +kernel
theorem dX7_isCommandRead_165 : decode cX7_isCommandRead 165 = .ok (.invokevirtual 47, 3) := by decide +kernel
theorem dX7_isCommandRead_168 : decode cX7_isCommandRead 168 = .ok (.ifCond .eq 7, 3) := by decide +kernel
theorem dX7_isCommandRead_171 : decode cX7_isCommandRead 171 = .ok (.iconst 1, 1) := by decide +kernel
theorem dX7_isCommandRead_172 : decode cX7_isCommandRead 172 = .ok (.goto 4, 3) := by decide +kernel
theorem dX7_isCommandRead_175 : decode cX7_isCommandRead 175 = .ok (.iconst 0, 1) := by decide +kernel
theorem dX7_isCommandRead_176 : decode cX7_isCommandRead 176 = .ok (.ireturn, 1) := by decide +kernel
theorem dX7_isCommandRead_177 : decode cX7_isCommandRead 177 = .ok (.iconst 0, 1) := by decide +kernel
theorem dX7_isCommandRead_178 : decode cX7_isCommandRead 178 = .ok (.ireturn, 1) := by decide +kernel
theorem dX7_isNumberRead_0 : decode cX7_isNumberRead 0 = .ok (.aload_n 1, 1) := by decide +kernel
theorem dX7_isNumberRead_1 : decode cX7_isNumberRead 1 = .ok (.iload 4, 2) := by decide +kernel
theorem dX7_isNumberRead_3 : decode cX7_isNumberRead 3 = .ok (.invokevirtual 51, 3) := by decide +kernel
theorem dX7_isNumberRead_6 : decode cX7_isNumberRead 6 = .ok (.istore 5, 2) := by decide +kernel
theorem dX7_isNumberRead_8 : decode cX7_isNumberRead 8 = .ok (.aload_n 0, 1) := by decide +kernel
theorem dX7_isNumberRead_9 : decode cX7_isNumberRead 9 = .ok (.getfield 15, 3) := by decide +kernel
theorem dX7_isNumberRead_12 : decode cX7_isNumberRead 12 = .ok (.iload_n 2, 1) := by decide +kernel
theorem dX7_isNumberRead_13 : decode cX7_isNumberRead 13 = .ok (.iconst 3, 1) := by decide +kernel
theorem dX7_isNumberRead_14 : decode cX7_isNumberRead 14 = .ok (.imul, 1) := by decide +kernel
theorem dX7_isNumberRead_15 : decode cX7_isNumberRead 15 = .ok (.iload_n 3, 1) := by decide +kernel
theorem dX7_isNumberRead_16 : decode cX7_isNumberRead 16 = .ok (.iadd, 1) := by decide +kernel
theorem dX7_isNumberRead_17 : decode cX7_isNumberRead 17 = .ok (.iload 5, 2) := by decide +kernel
theorem dX7_isNumberRead_19 : decode cX7_isNumberRead 19 = .ok (.iastore, 1) := by decide +kernel
theorem dX7_isNumberRead_20 : decode cX7_isNumberRead 20 = .ok (.iload 5, 2) := by decide +kernel
theorem dX7_isNumberRead_22 : decode cX7_isNumberRead 22 = .ok (.iconst (-1), 1) := by decide +kernel
theorem dX7_isNumberRead_23 : decode cX7_isNumberRead 23 = .ok (.if_icmp .eq 7, 3) := by decide +kernel
theorem dX7_isNumberRead_26 : decode cX7_isNumberRead 26 = .ok (.iconst 1, 1) := by decide +kernel
theorem dX7_isNumberRead_27 : decode cX7_isNumberRead 27 = .ok (.goto 4, 3) := by decide +kernel
theorem dX7_isNumberRead_30 : decode cX7_isNumberRead 30 = .ok (.iconst 0, 1) := by decide +kernel
theorem dX7_isNumberRead_31 : decode cX7_isNumberRead 31 = .ok (.ireturn, 1) := by decide +kernel
theorem dX7_kindOf_0 : decode cX7_kindOf 0 = .ok (.iload_n 1, 1) := by decide +kernel
theorem dX7_kindOf_1 : decode cX7_kindOf 1 = .ok (.iconst 0, 1) := by decide +kernel
theorem dX7_kindOf_2 : decode cX7_kindOf 2 = .ok (.aload_n 0, 1) := by decide +kernel
theorem dX7_kindOf_3 : decode cX7_kindOf 3 = .ok (.getfield 23, 3) := by decide +kernel
theorem dX7_kindOf_6 : decode cX7_kindOf 6 = .ok (.iconst 1, 1) := by decide +kernel
theorem dX7_kindOf_7 : decode cX7_kindOf 7 = .ok (.isub, 1) := by decide +kernel
theorem dX7_kindOf_8 : decode cX7_kindOf 8 = .ok (.invokestatic 55, 3) := by decide +kernel
theorem dX7_kindOf_11 : decode cX7_kindOf 11 = .ok (.ifCond .eq 12, 3) := by decide +kernel
theorem dX7_kindOf_14 : decode cX7_kindOf 14 = .ok (.aload_n 0, 1) := by decide +kernel
theorem dX7_kindOf_15 : decode cX7_kindOf 15 = .ok (.getfield 11, 3) := by decide +kernel
theorem dX7_kindOf_18 : decode cX7_kindOf 18 = .ok (.iload_n 1, 1) := by decide +kernel
theorem dX7_kindOf_19 : decode cX7_kindOf 19 = .ok (.iaload, 1) := by decide +kernel
theorem dX7_kindOf_20 : decode cX7_kindOf 20 = .ok (.goto 4, 3) := by decide +kernel
theorem dX7_kindOf_23 : decode cX7_kindOf 23 = .ok (.iconst (-1), 1) := by decide +kernel
theorem dX7_kindOf_24 : decode cX7_kindOf 24 = .ok (.ireturn, 1) := by decide +kernel
theorem dX7_numberOf_0 : decode cX7_numberOf 0 = .ok (.iload_n 1, 1) := by decide +kernel
theorem dX7_numberOf_1 : decode cX7_numberOf 1 = .ok (.iconst 0, 1) := by decide +kernel
theorem dX7_numberOf_2 : decode cX7_numberOf 2 = .ok (.aload_n 0, 1) := by decide +kernel
theorem dX7_numberOf_3 : decode cX7_numberOf 3 = .ok (.getfield 23, 3) := by decide +kernel
theorem dX7_numberOf_6 : decode cX7_numberOf 6 = .ok (.iconst 1, 1) := by decide +kernel
theorem dX7_numberOf_7 : decode cX7_numberOf 7 = .ok (.isub, 1) := by decide +kernel
theorem dX7_numberOf_8 : decode cX7_numberOf 8 = .ok (.invokestatic 55, 3) := by decide +kernel
theorem dX7_numberOf_11 : decode cX7_numberOf 11 = .ok (.ifCond .eq 16, 3) := by decide +kernel
theorem dX7_numberOf_14 : decode cX7_numberOf 14 = .ok (.aload_n 0, 1) := by decide +kernel
theorem dX7_numberOf_15 : decode cX7_numberOf 15 = .ok (.getfield 15, 3) := by decide +kernel
theorem dX7_numberOf_18 : decode cX7_numberOf 18 = .ok (.iload_n 1, 1) := by decide +kernel
theorem dX7_numberOf_19 : decode cX7_numberOf 19 = .ok (.iconst 3, 1) := by decide +kernel
theorem dX7_numberOf_20 : decode cX7_numberOf 20 = .ok (.imul, 1) := by decide +kernel
theorem dX7_numberOf_21 : decode cX7_numberOf 21 = .ok (.iload_n 2, 1) := by decide +kernel
theorem dX7_numberOf_22 : decode cX7_numberOf 22 = .ok (.iadd, 1) := by decide +kernel
theorem dX7_numberOf_23 : decode cX7_numberOf 23 = .ok (.iaload, 1) := by decide +kernel
theorem dX7_numberOf_24 : decode cX7_numberOf 24 = .ok (.goto 4, 3) := by decide +kernel
theorem dX7_numberOf_27 : decode cX7_numberOf 27 = .ok (.iconst (-1), 1) := by decide +kernel
theorem dX7_numberOf_28 : decode cX7_numberOf 28 = .ok (.ireturn, 1) := by decide +kernel
theorem dX8_init_0 : decode cX8_init 0 = .ok (.aload_n 0, 1) := by decide +kernel
theorem dX8_init_1 : decode cX8_init 1 = .ok (.invokespecial 3, 3) := by decide +kernel
theorem dX8_init_4 : decode cX8_init 4 = .ok (.aload_n 0, 1) := by decide +kernel
theorem dX8_init_5 : decode cX8_init 5 = .ok (.iconst 3, 1) := by decide +kernel
theorem dX8_init_6 : decode cX8_init 6 = .ok (.newarray .int, 2) := by decide +kernel
theorem dX8_init_8 : decode cX8_init 8 = .ok (.putfield 9, 3) := by decide +kernel
theorem dX8_init_11 : decode cX8_init 11 = .ok (.aload_n 0, 1) := by decide +kernel
theorem dX8_init_12 : decode cX8_init 12 = .ok (.iconst 3, 1) := by decide +kernel
theorem dX8_init_13 : decode cX8_init 13 = .ok (.newarray .int, 2) := by decide +kernel
theorem dX8_init_15 : decode cX8_init 15 = .ok (.putfield 15, 3) := by decide +kernel
theorem dX8_init_18 : decode cX8_init 18 = .ok (.return_, 1) := by decide +kernel
theorem dX8_refuse_0 : decode cX8_refuse 0 = .ok (.aload_n 0, 1) := by decide +kernel
theorem dX8_refuse_1 : decode cX8_refuse 1 = .ok (.iconst 0, 1) := by decide +kernel
theorem dX8_refuse_2 : decode cX8_refuse 2 = .ok (.putfield 18, 3) := by decide +kernel
theorem dX8_refuse_5 : decode cX8_refuse 5 = .ok (.aload_n 0, 1) := by decide +kernel
theorem dX8_refuse_6 : decode cX8_refuse 6 = .ok (.iload_n 1, 1) := by decide +kernel
theorem dX8_refuse_7 : decode cX8_refuse 7 = .ok (.iload_n 2, 1) := by decide +kernel
theorem dX8_refuse_8 : decode cX8_refuse 8 = .ok (.invokevirtual 22, 3) := by decide +kernel
theorem dX8_refuse_11 : decode cX8_refuse 11 = .ok (.iconst (-1), 1) := by decide +kernel
theorem dX8_refuse_12 : decode cX8_refuse 12 = .ok (.ireturn, 1) := by decide +kernel
theorem dX8_putBehind_0 : decode cX8_putBehind 0 = .ok (.aload_n 0, 1) := by decide +kernel
theorem dX8_putBehind_1 : decode cX8_putBehind 1 = .ok (.getfield 18, 3) := by decide +kernel
theorem dX8_putBehind_4 : decode cX8_putBehind 4 = .ok (.iconst 3, 1) := by decide +kernel
theorem dX8_putBehind_5 : decode cX8_putBehind 5 = .ok (.if_icmp .ge 33, 3) := by decide +kernel
theorem dX8_putBehind_8 : decode cX8_putBehind 8 = .ok (.aload_n 0, 1) := by decide +kernel
theorem dX8_putBehind_9 : decode cX8_putBehind 9 = .ok (.getfield 9, 3) := by decide +kernel
theorem dX8_putBehind_12 : decode cX8_putBehind 12 = .ok (.aload_n 0, 1) := by decide +kernel
theorem dX8_putBehind_13 : decode cX8_putBehind 13 = .ok (.getfield 18, 3) := by decide +kernel
theorem dX8_putBehind_16 : decode cX8_putBehind 16 = .ok (.iload_n 1, 1) := by decide +kernel
theorem dX8_putBehind_17 : decode cX8_putBehind 17 = .ok (.iastore, 1) := by decide +kernel
theorem dX8_putBehind_18 : decode cX8_putBehind 18 = .ok (.aload_n 0, 1) := by decide +kernel
theorem dX8_putBehind_19 : decode cX8_putBehind 19 = .ok (.getfield 15, 3) := by decide +kernel
theorem dX8_putBehind_22 : decode cX8_putBehind 22 = .ok (.aload_n 0, 1) := by decide +kernel
theorem dX8_putBehind_23 : decode cX8_putBehind 23 = .ok (.getfield 18, 3) := by decide +kernel
theorem dX8_putBehind_26 : decode cX8_putBehind 26 = .ok (.iload_n 2, 1) := by decide +kernel
theorem dX8_putBehind_27 : decode cX8_putBehind 27 = .ok (.iastore, 1) := by decide +kernel
theorem dX8_putBehind_28 : decode cX8_putBehind 28 = .ok (.aload_n 0, 1) := by decide +kernel
theorem dX8_putBehind_29 : decode cX8_putBehind 29 = .ok (.dup, 1) := by decide +kernel
theorem dX8_putBehind_30 : decode cX8_putBehind 30 = .ok (.getfield 18, 3) := by decide +kernel
theorem dX8_putBehind_33 : decode cX8_putBehind 33 = .ok (.iconst 1, 1) := by decide +kernel
theorem dX8_putBehind_34 : decode cX8_putBehind 34 = .ok (.iadd, 1) := by decide +kernel
theorem dX8_putBehind_35 : decode cX8_putBehind 35 = .ok (.putfield 18, 3) := by decide +kernel
theorem dX8_putBehind_38 : decode cX8_putBehind 38 = .ok (.return_, 1) := by decide +kernel
theorem dX8_putAhead_0 : decode cX8_putAhead 0 = .ok (.aload_n 0, 1) := by decide +kernel
theorem dX8_putAhead_1 : decode cX8_putAhead 1 = .ok (.aload_n 0, 1) := by decide +kernel
theorem dX8_putAhead_2 : decode cX8_putAhead 2 = .ok (.getfield 18, 3) := by decide +kernel
theorem dX8_putAhead_5 : decode cX8_putAhead 5 = .ok (.iconst 1, 1) := by decide +kernel
theorem dX8_putAhead_6 : decode cX8_putAhead 6 = .ok (.iadd, 1) := by decide +kernel
theorem dX8_putAhead_7 : decode cX8_putAhead 7 = .ok (.iconst 3, 1) := by decide +kernel
theorem dX8_putAhead_8 : decode cX8_putAhead 8 = .ok (.invokestatic 26, 3) := by decide +kernel
theorem dX8_putAhead_11 : decode cX8_putAhead 11 = .ok (.putfield 18, 3) := by decide +kernel
theorem dX8_putAhead_14 : decode cX8_putAhead 14 = .ok (.aload_n 0, 1) := by decide +kernel
theorem dX8_putAhead_15 : decode cX8_putAhead 15 = .ok (.getfield 18, 3) := by decide +kernel
theorem dX8_putAhead_18 : decode cX8_putAhead 18 = .ok (.iconst 1, 1) := by decide +kernel
theorem dX8_putAhead_19 : decode cX8_putAhead 19 = .ok (.isub, 1) := by decide +kernel
theorem dX8_putAhead_20 : decode cX8_putAhead 20 = .ok (.istore_n 3, 1) := by decide +kernel
theorem dX8_putAhead_21 : decode cX8_putAhead 21 = .ok (.iload_n 3, 1) := by decide +kernel
theorem dX8_putAhead_22 : decode cX8_putAhead 22 = .ok (.ifCond .le 37, 3) := by decide +kernel
theorem dX8_putAhead_25 : decode cX8_putAhead 25 = .ok (.aload_n 0, 1) := by decide +kernel
theorem dX8_putAhead_26 : decode cX8_putAhead 26 = .ok (.getfield 9, 3) := by decide +kernel
theorem dX8_putAhead_29 : decode cX8_putAhead 29 = .ok (.iload_n 3, 1) := by decide +kernel
theorem dX8_putAhead_30 : decode cX8_putAhead 30 = .ok (.aload_n 0, 1) := by decide +kernel
theorem dX8_putAhead_31 : decode cX8_putAhead 31 = .ok (.getfield 9, 3) := by decide +kernel
theorem dX8_putAhead_34 : decode cX8_putAhead 34 = .ok (.iload_n 3, 1) := by decide +kernel
theorem dX8_putAhead_35 : decode cX8_putAhead 35 = .ok (.iconst 1, 1) := by decide +kernel
theorem dX8_putAhead_36 : decode cX8_putAhead 36 = .ok (.isub, 1) := by decide +kernel
theorem dX8_putAhead_37 : decode cX8_putAhead 37 = .ok (.iaload, 1) := by decide +kernel
theorem dX8_putAhead_38 : decode cX8_putAhead 38 = .ok (.iastore, 1) := by decide +kernel
theorem dX8_putAhead_39 : decode cX8_putAhead 39 = .ok (.aload_n 0, 1) := by decide +kernel
theorem dX8_putAhead_40 : decode cX8_putAhead 40 = .ok (.getfield 15, 3) := by decide +kernel
theorem dX8_putAhead_43 : decode cX8_putAhead 43 = .ok (.iload_n 3, 1) := by decide +kernel
theorem dX8_putAhead_44 : decode cX8_putAhead 44 = .ok (.aload_n 0, 1) := by decide +kernel
theorem dX8_putAhead_45 : decode cX8_putAhead 45 = .ok (.getfield 15, 3) := by decide +kernel
theorem dX8_putAhead_48 : decode cX8_putAhead 48 = .ok (.iload_n 3, 1) := by decide +kernel
theorem dX8_putAhead_49 : decode cX8_putAhead 49 = .ok (.iconst 1, 1) := by decide +kernel
theorem dX8_putAhead_50 : decode cX8_putAhead 50 = .ok (.isub, 1) := by decide +kernel
theorem dX8_putAhead_51 : decode cX8_putAhead 51 = .ok (.iaload, 1) := by decide +kernel
theorem dX8_putAhead_52 : decode cX8_putAhead 52 = .ok (.iastore, 1) := by decide +kernel
theorem dX8_putAhead_53 : decode cX8_putAhead 53 = .ok (.iinc 3 (-1), 3) := by decide +kernel
theorem dX8_putAhead_56 : decode cX8_putAhead 56 = .ok (.goto (-35), 3) := by decide +kernel
theorem dX8_putAhead_59 : decode cX8_putAhead 59 = .ok (.aload_n 0, 1) := by decide +kernel
theorem dX8_putAhead_60 : decode cX8_putAhead 60 = .ok (.getfield 9, 3) := by decide +kernel
theorem dX8_putAhead_63 : decode cX8_putAhead 63 = .ok (.iconst 0, 1) := by decide +kernel
theorem dX8_putAhead_64 : decode cX8_putAhead 64 = .ok (.iload_n 1, 1) := by decide +kernel
theorem dX8_putAhead_65 : decode cX8_putAhead 65 = .ok (.iastore, 1) := by decide +kernel
theorem dX8_putAhead_66 : decode cX8_putAhead 66 = .ok (.aload_n 0, 1) := by decide +kernel
theorem dX8_putAhead_67 : decode cX8_putAhead 67 = .ok (.getfield 15, 3) := by decide +kernel
theorem dX8_putAhead_70 : decode cX8_putAhead 70 = .ok (.iconst 0, 1) := by decide +kernel
theorem dX8_putAhead_71 : decode cX8_putAhead 71 = .ok (.iload_n 2, 1) := by decide +kernel
theorem dX8_putAhead_72 : decode cX8_putAhead 72 = .ok (.iastore, 1) := by decide +kernel
theorem dX8_putAhead_73 : decode cX8_putAhead 73 = .ok (.return_, 1) := by decide +kernel
theorem dX9_init_0 : decode cX9_init 0 = .ok (.aload_n 0, 1) := by decide +kernel
theorem dX9_init_1 : decode cX9_init 1 = .ok (.invokespecial 3, 3) := by decide +kernel
theorem dX9_init_4 : decode cX9_init 4 = .ok (.aload_n 0, 1) := by decide +kernel
theorem dX9_init_5 : decode cX9_init 5 = .ok (.bipush 48, 2) := by decide +kernel
theorem dX9_init_7 : decode cX9_init 7 = .ok (.newarray .int, 2) := by decide +kernel
theorem dX9_init_9 : decode cX9_init 9 = .ok (.putfield 9, 3) := by decide +kernel
theorem dX9_init_12 : decode cX9_init 12 = .ok (.aload_n 0, 1) := by decide +kernel
theorem dX9_init_13 : decode cX9_init 13 = .ok (.bipush 48, 2) := by decide +kernel
theorem dX9_init_15 : decode cX9_init 15 = .ok (.newarray .int, 2) := by decide +kernel
theorem dX9_init_17 : decode cX9_init 17 = .ok (.putfield 15, 3) := by decide +kernel
theorem dX9_init_20 : decode cX9_init 20 = .ok (.aload_n 0, 1) := by decide +kernel
theorem dX9_init_21 : decode cX9_init 21 = .ok (.bipush 48, 2) := by decide +kernel
theorem dX9_init_23 : decode cX9_init 23 = .ok (.newarray .int, 2) := by decide +kernel
theorem dX9_init_25 : decode cX9_init 25 = .ok (.putfield 18, 3) := by decide +kernel
theorem dX9_init_28 : decode cX9_init 28 = .ok (.aload_n 0, 1) := by decide +kernel
theorem dX9_init_29 : decode cX9_init 29 = .ok (.bipush 8, 2) := by decide +kernel
theorem dX9_init_31 : decode cX9_init 31 = .ok (.newarray .int, 2) := by decide +kernel
theorem dX9_init_33 : decode cX9_init 33 = .ok (.putfield 21, 3) := by decide +kernel
theorem dX9_init_36 : decode cX9_init 36 = .ok (.aload_n 0, 1) := by decide +kernel
theorem dX9_init_37 : decode cX9_init 37 = .ok (.bipush 8, 2) := by decide +kernel
theorem dX9_init_39 : decode cX9_init 39 = .ok (.newarray .int, 2) := by decide +kernel
theorem dX9_init_41 : decode cX9_init 41 = .ok (.putfield 24, 3) := by decide +kernel
theorem dX9_init_44 : decode cX9_init 44 = .ok (.return_, 1) := by decide +kernel
theorem dX9_copyFrom_0 : decode cX9_copyFrom 0 = .ok (.aload_n 1, 1) := by decide +kernel
theorem dX9_copyFrom_1 : decode cX9_copyFrom 1 = .ok (.getfield 9, 3) := by decide +kernel
theorem dX9_copyFrom_4 : decode cX9_copyFrom 4 = .ok (.aload_n 0, 1) := by decide +kernel
theorem dX9_copyFrom_5 : decode cX9_copyFrom 5 = .ok (.getfield 9, 3) := by decide +kernel
theorem dX9_copyFrom_8 : decode cX9_copyFrom 8 = .ok (.invokestatic 27, 3) := by decide +kernel
theorem dX9_copyFrom_11 : decode cX9_copyFrom 11 = .ok (.aload_n 1, 1) := by decide +kernel
theorem dX9_copyFrom_12 : decode cX9_copyFrom 12 = .ok (.getfield 15, 3) := by decide +kernel
theorem dX9_copyFrom_15 : decode cX9_copyFrom 15 = .ok (.aload_n 0, 1) := by decide +kernel
theorem dX9_copyFrom_16 : decode cX9_copyFrom 16 = .ok (.getfield 15, 3) := by decide +kernel
theorem dX9_copyFrom_19 : decode cX9_copyFrom 19 = .ok (.invokestatic 27, 3) := by decide +kernel
theorem dX9_copyFrom_22 : decode cX9_copyFrom 22 = .ok (.aload_n 1, 1) := by decide +kernel
theorem dX9_copyFrom_23 : decode cX9_copyFrom 23 = .ok (.getfield 18, 3) := by decide +kernel
theorem dX9_copyFrom_26 : decode cX9_copyFrom 26 = .ok (.aload_n 0, 1) := by decide +kernel
theorem dX9_copyFrom_27 : decode cX9_copyFrom 27 = .ok (.getfield 18, 3) := by decide +kernel
theorem dX9_copyFrom_30 : decode cX9_copyFrom 30 = .ok (.invokestatic 27, 3) := by decide +kernel
theorem dX9_copyFrom_33 : decode cX9_copyFrom 33 = .ok (.aload_n 1, 1) := by decide +kernel
theorem dX9_copyFrom_34 : decode cX9_copyFrom 34 = .ok (.getfield 21, 3) := by decide +kernel
theorem dX9_copyFrom_37 : decode cX9_copyFrom 37 = .ok (.aload_n 0, 1) := by decide +kernel
theorem dX9_copyFrom_38 : decode cX9_copyFrom 38 = .ok (.getfield 21, 3) := by decide +kernel
theorem dX9_copyFrom_41 : decode cX9_copyFrom 41 = .ok (.invokestatic 27, 3) := by decide +kernel
theorem dX9_copyFrom_44 : decode cX9_copyFrom 44 = .ok (.aload_n 1, 1) := by decide +kernel
theorem dX9_copyFrom_45 : decode cX9_copyFrom 45 = .ok (.getfield 24, 3) := by decide +kernel
theorem dX9_copyFrom_48 : decode cX9_copyFrom 48 = .ok (.aload_n 0, 1) := by decide +kernel
theorem dX9_copyFrom_49 : decode cX9_copyFrom 49 = .ok (.getfield 24, 3) := by decide +kernel
theorem dX9_copyFrom_52 : decode cX9_copyFrom 52 = .ok (.invokestatic 27, 3) := by decide +kernel
theorem dX9_copyFrom_55 : decode cX9_copyFrom 55 = .ok (.return_, 1) := by decide +kernel
theorem dX9_addScrap_0 : decode cX9_addScrap 0 = .ok (.aload_n 0, 1) := by decide +kernel
theorem dX9_addScrap_1 : decode cX9_addScrap 1 = .ok (.getfield 21, 3) := by decide +kernel
theorem dX9_addScrap_4 : decode cX9_addScrap 4 = .ok (.iload_n 1, 1) := by decide +kernel
theorem dX9_addScrap_5 : decode cX9_addScrap 5 = .ok (.dup2, 1) := by decide +kernel
theorem dX9_addScrap_6 : decode cX9_addScrap 6 = .ok (.iaload, 1) := by decide +kernel
theorem dX9_addScrap_7 : decode cX9_addScrap 7 = .ok (.iload_n 2, 1) := by decide +kernel
theorem dX9_addScrap_8 : decode cX9_addScrap 8 = .ok (.iadd, 1) := by decide +kernel
theorem dX9_addScrap_9 : decode cX9_addScrap 9 = .ok (.iastore, 1) := by decide +kernel
theorem dX9_addScrap_10 : decode cX9_addScrap 10 = .ok (.aload_n 0, 1) := by decide +kernel
theorem dX9_addScrap_11 : decode cX9_addScrap 11 = .ok (.getfield 24, 3) := by decide +kernel
theorem dX9_addScrap_14 : decode cX9_addScrap 14 = .ok (.iload_n 1, 1) := by decide +kernel
theorem dX9_addScrap_15 : decode cX9_addScrap 15 = .ok (.dup2, 1) := by decide +kernel
theorem dX9_addScrap_16 : decode cX9_addScrap 16 = .ok (.iaload, 1) := by decide +kernel
theorem dX9_addScrap_17 : decode cX9_addScrap 17 = .ok (.iload_n 2, 1) := by decide +kernel
theorem dX9_addScrap_18 : decode cX9_addScrap 18 = .ok (.iadd, 1) := by decide +kernel
theorem dX9_addScrap_19 : decode cX9_addScrap 19 = .ok (.iastore, 1) := by decide +kernel
theorem dX9_addScrap_20 : decode cX9_addScrap 20 = .ok (.return_, 1) := by decide +kernel
theorem dX9_addPieces_0 : decode cX9_addPieces 0 = .ok (.iload_n 1, 1) := by decide +kernel
theorem dX9_addPieces_1 : decode cX9_addPieces 1 = .ok (.bipush 6, 2) := by decide +kernel
theorem dX9_addPieces_3 : decode cX9_addPieces 3 = .ok (.imul, 1) := by decide +kernel
theorem dX9_addPieces_4 : decode cX9_addPieces 4 = .ok (.iload_n 2, 1) := by decide +kernel
theorem dX9_addPieces_5 : decode cX9_addPieces 5 = .ok (.iadd, 1) := by decide +kernel
theorem dX9_addPieces_6 : decode cX9_addPieces 6 = .ok (.istore 5, 2) := by decide +kernel
theorem dX9_addPieces_8 : decode cX9_addPieces 8 = .ok (.aload_n 0, 1) := by decide +kernel
theorem dX9_addPieces_9 : decode cX9_addPieces 9 = .ok (.getfield 21, 3) := by decide +kernel
theorem dX9_addPieces_12 : decode cX9_addPieces 12 = .ok (.iload_n 1, 1) := by decide +kernel
theorem dX9_addPieces_13 : decode cX9_addPieces 13 = .ok (.dup2, 1) := by decide +kernel
theorem dX9_addPieces_14 : decode cX9_addPieces 14 = .ok (.iaload, 1) := by decide +kernel
theorem dX9_addPieces_15 : decode cX9_addPieces 15 = .ok (.iload_n 3, 1) := by decide +kernel
theorem dX9_addPieces_16 : decode cX9_addPieces 16 = .ok (.iadd, 1) := by decide +kernel
theorem dX9_addPieces_17 : decode cX9_addPieces 17 = .ok (.iastore, 1) := by decide +kernel
theorem dX9_addPieces_18 : decode cX9_addPieces 18 = .ok (.aload_n 0, 1) := by decide +kernel
theorem dX9_addPieces_19 : decode cX9_addPieces 19 = .ok (.getfield 15, 3) := by decide +kernel
theorem dX9_addPieces_22 : decode cX9_addPieces 22 = .ok (.iload 5, 2) := by decide +kernel
theorem dX9_addPieces_24 : decode cX9_addPieces 24 = .ok (.dup2, 1) := by decide +kernel
theorem dX9_addPieces_25 : decode cX9_addPieces 25 = .ok (.iaload, 1) := by decide +kernel
theorem dX9_addPieces_26 : decode cX9_addPieces 26 = .ok (.iload_n 3, 1) := by decide +kernel
theorem dX9_addPieces_27 : decode cX9_addPieces 27 = .ok (.iadd, 1) := by decide +kernel
theorem dX9_addPieces_28 : decode cX9_addPieces 28 = .ok (.iastore, 1) := by decide +kernel
theorem dX9_addPieces_29 : decode cX9_addPieces 29 = .ok (.iload 4, 2) := by decide +kernel
theorem dX9_addPieces_31 : decode cX9_addPieces 31 = .ok (.ifCond .le 35, 3) := by decide +kernel
theorem dX9_addPieces_34 : decode cX9_addPieces 34 = .ok (.aload_n 0, 1) := by decide +kernel
theorem dX9_addPieces_35 : decode cX9_addPieces 35 = .ok (.getfield 9, 3) := by decide +kernel
theorem dX9_addPieces_38 : decode cX9_addPieces 38 = .ok (.iload 5, 2) := by decide +kernel
theorem dX9_addPieces_40 : decode cX9_addPieces 40 = .ok (.dup2, 1) := by decide +kernel
theorem dX9_addPieces_41 : decode cX9_addPieces 41 = .ok (.iaload, 1) := by decide +kernel
theorem dX9_addPieces_42 : decode cX9_addPieces 42 = .ok (.aload_n 0, 1) := by decide +kernel
theorem dX9_addPieces_43 : decode cX9_addPieces 43 = .ok (.getfield 15, 3) := by decide +kernel
theorem dX9_addPieces_46 : decode cX9_addPieces 46 = .ok (.iload 5, 2) := by decide +kernel
theorem dX9_addPieces_48 : decode cX9_addPieces 48 = .ok (.iaload, 1) := by decide +kernel
theorem dX9_addPieces_49 : decode cX9_addPieces 49 = .ok (.iload 4, 2) := by decide +kernel
theorem dX9_addPieces_51 : decode cX9_addPieces 51 = .ok (.idiv, 1) := by decide +kernel
theorem dX9_addPieces_52 : decode cX9_addPieces 52 = .ok (.iadd, 1) := by decide +kernel
theorem dX9_addPieces_53 : decode cX9_addPieces 53 = .ok (.iastore, 1) := by decide +kernel
theorem dX9_addPieces_54 : decode cX9_addPieces 54 = .ok (.aload_n 0, 1) := by decide +kernel
theorem dX9_addPieces_55 : decode cX9_addPieces 55 = .ok (.getfield 15, 3) := by decide +kernel
theorem dX9_addPieces_58 : decode cX9_addPieces 58 = .ok (.iload 5, 2) := by decide +kernel
theorem dX9_addPieces_60 : decode cX9_addPieces 60 = .ok (.dup2, 1) := by decide +kernel
theorem dX9_addPieces_61 : decode cX9_addPieces 61 = .ok (.iaload, 1) := by decide +kernel
theorem dX9_addPieces_62 : decode cX9_addPieces 62 = .ok (.iload 4, 2) := by decide +kernel
theorem dX9_addPieces_64 : decode cX9_addPieces 64 = .ok (.irem, 1) := by decide +kernel
theorem dX9_addPieces_65 : decode cX9_addPieces 65 = .ok (.iastore, 1) := by decide +kernel
theorem dX9_addPieces_66 : decode cX9_addPieces 66 = .ok (.return_, 1) := by decide +kernel
theorem dX9_isDelivered_0 : decode cX9_isDelivered 0 = .ok (.iload_n 1, 1) := by decide +kernel
theorem dX9_isDelivered_1 : decode cX9_isDelivered 1 = .ok (.bipush 6, 2) := by decide +kernel
theorem dX9_isDelivered_3 : decode cX9_isDelivered 3 = .ok (.imul, 1) := by decide +kernel
theorem dX9_isDelivered_4 : decode cX9_isDelivered 4 = .ok (.iload_n 2, 1) := by decide +kernel
theorem dX9_isDelivered_5 : decode cX9_isDelivered 5 = .ok (.iadd, 1) := by decide +kernel
theorem dX9_isDelivered_6 : decode cX9_isDelivered 6 = .ok (.istore 4, 2) := by decide +kernel
theorem dX9_isDelivered_8 : decode cX9_isDelivered 8 = .ok (.aload_n 0, 1) := by decide +kernel
theorem dX9_isDelivered_9 : decode cX9_isDelivered 9 = .ok (.getfield 9, 3) := by decide +kernel
theorem dX9_isDelivered_12 : decode cX9_isDelivered 12 = .ok (.iload 4, 2) := by decide +kernel
theorem dX9_isDelivered_14 : decode cX9_isDelivered 14 = .ok (.iaload, 1) := by decide +kernel
theorem dX9_isDelivered_15 : decode cX9_isDelivered 15 = .ok (.iload_n 3, 1) := by decide +kernel
theorem dX9_isDelivered_16 : decode cX9_isDelivered 16 = .ok (.if_icmp .ge 5, 3) := by decide +kernel
theorem dX9_isDelivered_19 : decode cX9_isDelivered 19 = .ok (.iconst 0, 1) := by decide +kernel
theorem dX9_isDelivered_20 : decode cX9_isDelivered 20 = .ok (.ireturn, 1) := by decide +kernel
theorem dX9_isDelivered_21 : decode cX9_isDelivered 21 = .ok (.aload_n 0, 1) := by decide +kernel
theorem dX9_isDelivered_22 : decode cX9_isDelivered 22 = .ok (.getfield 9, 3) := by decide +kernel
theorem dX9_isDelivered_25 : decode cX9_isDelivered 25 = .ok (.iload 4, 2) := by decide +kernel
theorem dX9_isDelivered_27 : decode cX9_isDelivered 27 = .ok (.dup2, 1) := by decide +kernel
theorem dX9_isDelivered_28 : decode cX9_isDelivered 28 = .ok (.iaload, 1) := by decide +kernel
theorem dX9_isDelivered_29 : decode cX9_isDelivered 29 = .ok (.iload_n 3, 1) := by decide +kernel
theorem dX9_isDelivered_30 : decode cX9_isDelivered 30 = .ok (.isub, 1) := by decide +kernel
theorem dX9_isDelivered_31 : decode cX9_isDelivered 31 = .ok (.iastore, 1) := by decide +kernel
theorem dX9_isDelivered_32 : decode cX9_isDelivered 32 = .ok (.aload_n 0, 1) := by decide +kernel
theorem dX9_isDelivered_33 : decode cX9_isDelivered 33 = .ok (.getfield 18, 3) := by decide +kernel
theorem dX9_isDelivered_36 : decode cX9_isDelivered 36 = .ok (.iload 4, 2) := by decide +kernel
theorem dX9_isDelivered_38 : decode cX9_isDelivered 38 = .ok (.dup2, 1) := by decide +kernel
theorem dX9_isDelivered_39 : decode cX9_isDelivered 39 = .ok (.iaload, 1) := by decide +kernel
theorem dX9_isDelivered_40 : decode cX9_isDelivered 40 = .ok (.iload_n 3, 1) := by decide +kernel
theorem dX9_isDelivered_41 : decode cX9_isDelivered 41 = .ok (.iadd, 1) := by decide +kernel
theorem dX9_isDelivered_42 : decode cX9_isDelivered 42 = .ok (.iastore, 1) := by decide +kernel
theorem dX9_isDelivered_43 : decode cX9_isDelivered 43 = .ok (.iconst 1, 1) := by decide +kernel
theorem dX9_isDelivered_44 : decode cX9_isDelivered 44 = .ok (.ireturn, 1) := by decide +kernel
theorem dX9_cratesOf_0 : decode cX9_cratesOf 0 = .ok (.iconst 0, 1) := by decide +kernel
theorem dX9_cratesOf_1 : decode cX9_cratesOf 1 = .ok (.istore_n 2, 1) := by decide +kernel
theorem dX9_cratesOf_2 : decode cX9_cratesOf 2 = .ok (.iconst 0, 1) := by decide +kernel
theorem dX9_cratesOf_3 : decode cX9_cratesOf 3 = .ok (.istore_n 3, 1) := by decide +kernel
theorem dX9_cratesOf_4 : decode cX9_cratesOf 4 = .ok (.iload_n 3, 1) := by decide +kernel
theorem dX9_cratesOf_5 : decode cX9_cratesOf 5 = .ok (.bipush 6, 2) := by decide +kernel
theorem dX9_cratesOf_7 : decode cX9_cratesOf 7 = .ok (.if_icmp .ge 35, 3) := by decide +kernel
theorem dX9_cratesOf_10 : decode cX9_cratesOf 10 = .ok (.iload_n 1, 1) := by decide +kernel
theorem dX9_cratesOf_11 : decode cX9_cratesOf 11 = .ok (.bipush 6, 2) := by decide +kernel
theorem dX9_cratesOf_13 : decode cX9_cratesOf 13 = .ok (.imul, 1) := by decide +kernel
theorem dX9_cratesOf_14 : decode cX9_cratesOf 14 = .ok (.iload_n 3, 1) := by decide +kernel
theorem dX9_cratesOf_15 : decode cX9_cratesOf 15 = .ok (.iadd, 1) := by decide +kernel
theorem dX9_cratesOf_16 : decode cX9_cratesOf 16 = .ok (.istore 4, 2) := by decide +kernel
theorem dX9_cratesOf_18 : decode cX9_cratesOf 18 = .ok (.iload_n 2, 1) := by decide +kernel
theorem dX9_cratesOf_19 : decode cX9_cratesOf 19 = .ok (.aload_n 0, 1) := by decide +kernel
theorem dX9_cratesOf_20 : decode cX9_cratesOf 20 = .ok (.getfield 9, 3) := by decide +kernel
theorem dX9_cratesOf_23 : decode cX9_cratesOf 23 = .ok (.iload 4, 2) := by decide +kernel
theorem dX9_cratesOf_25 : decode cX9_cratesOf 25 = .ok (.iaload, 1) := by decide +kernel
theorem dX9_cratesOf_26 : decode cX9_cratesOf 26 = .ok (.aload_n 0, 1) := by decide +kernel
theorem dX9_cratesOf_27 : decode cX9_cratesOf 27 = .ok (.getfield 18, 3) := by decide +kernel
theorem dX9_cratesOf_30 : decode cX9_cratesOf 30 = .ok (.iload 4, 2) := by decide +kernel
theorem dX9_cratesOf_32 : decode cX9_cratesOf 32 = .ok (.iaload, 1) := by decide +kernel
theorem dX9_cratesOf_33 : decode cX9_cratesOf 33 = .ok (.iadd, 1) := by decide +kernel
theorem dX9_cratesOf_34 : decode cX9_cratesOf 34 = .ok (.iadd, 1) := by decide +kernel
theorem dX9_cratesOf_35 : decode cX9_cratesOf 35 = .ok (.istore_n 2, 1) := by decide +kernel
theorem dX9_cratesOf_36 : decode cX9_cratesOf 36 = .ok (.iinc 3 1, 3) := by decide +kernel
theorem dX9_cratesOf_39 : decode cX9_cratesOf 39 = .ok (.goto (-35), 3) := by decide +kernel
theorem dX9_cratesOf_42 : decode cX9_cratesOf 42 = .ok (.iload_n 2, 1) := by decide +kernel
theorem dX9_cratesOf_43 : decode cX9_cratesOf 43 = .ok (.ireturn, 1) := by decide +kernel
theorem dX9_restOf_0 : decode cX9_restOf 0 = .ok (.iconst 0, 1) := by decide +kernel
theorem dX9_restOf_1 : decode cX9_restOf 1 = .ok (.istore_n 2, 1) := by decide +kernel
theorem dX9_restOf_2 : decode cX9_restOf 2 = .ok (.iconst 0, 1) := by decide +kernel
theorem dX9_restOf_3 : decode cX9_restOf 3 = .ok (.istore_n 3, 1) := by decide +kernel
theorem dX9_restOf_4 : decode cX9_restOf 4 = .ok (.iload_n 3, 1) := by decide +kernel
theorem dX9_restOf_5 : decode cX9_restOf 5 = .ok (.bipush 6, 2) := by decide +kernel
theorem dX9_restOf_7 : decode cX9_restOf 7 = .ok (.if_icmp .ge 23, 3) := by decide +kernel
theorem dX9_restOf_10 : decode cX9_restOf 10 = .ok (.iload_n 2, 1) := by decide +kernel
theorem dX9_restOf_11 : decode cX9_restOf 11 = .ok (.aload_n 0, 1) := by decide +kernel
theorem dX9_restOf_12 : decode cX9_restOf 12 = .ok (.getfield 15, 3) := by decide +kernel
theorem dX9_restOf_15 : decode cX9_restOf 15 = .ok (.iload_n 1, 1) := by decide +kernel
theorem dX9_restOf_16 : decode cX9_restOf 16 = .ok (.bipush 6, 2) := by decide +kernel
theorem dX9_restOf_18 : decode cX9_restOf 18 = .ok (.imul, 1) := by decide +kernel
theorem dX9_restOf_19 : decode cX9_restOf 19 = .ok (.iload_n 3, 1) := by decide +kernel
theorem dX9_restOf_20 : decode cX9_restOf 20 = .ok (.iadd, 1) := by decide +kernel
theorem dX9_restOf_21 : decode cX9_restOf 21 = .ok (.iaload, 1) := by decide +kernel
theorem dX9_restOf_22 : decode cX9_restOf 22 = .ok (.iadd, 1) := by decide +kernel
theorem dX9_restOf_23 : decode cX9_restOf 23 = .ok (.istore_n 2, 1) := by decide +kernel
theorem dX9_restOf_24 : decode cX9_restOf 24 = .ok (.iinc 3 1, 3) := by decide +kernel
theorem dX9_restOf_27 : decode cX9_restOf 27 = .ok (.goto (-23), 3) := by decide +kernel
theorem dX9_restOf_30 : decode cX9_restOf 30 = .ok (.iload_n 2, 1) := by decide +kernel
theorem dX9_restOf_31 : decode cX9_restOf 31 = .ok (.ireturn, 1) := by decide +kernel
theorem dX9_sumOf_0 : decode cX9_sumOf 0 = .ok (.iconst 0, 1) := by decide +kernel
theorem dX9_sumOf_1 : decode cX9_sumOf 1 = .ok (.istore_n 2, 1) := by decide +kernel
theorem dX9_sumOf_2 : decode cX9_sumOf 2 = .ok (.aload_n 1, 1) := by decide +kernel
theorem dX9_sumOf_3 : decode cX9_sumOf 3 = .ok (.astore_n 3, 1) := by decide +kernel
theorem dX9_sumOf_4 : decode cX9_sumOf 4 = .ok (.aload_n 3, 1) := by decide +kernel
theorem dX9_sumOf_5 : decode cX9_sumOf 5 = .ok (.arraylength, 1) := by decide +kernel
theorem dX9_sumOf_6 : decode cX9_sumOf 6 = .ok (.istore 4, 2) := by decide +kernel
theorem dX9_sumOf_8 : decode cX9_sumOf 8 = .ok (.iconst 0, 1) := by decide +kernel
theorem dX9_sumOf_9 : decode cX9_sumOf 9 = .ok (.istore 5, 2) := by decide +kernel
theorem dX9_sumOf_11 : decode cX9_sumOf 11 = .ok (.iload 5, 2) := by decide +kernel
theorem dX9_sumOf_13 : decode cX9_sumOf 13 = .ok (.iload 4, 2) := by decide +kernel
theorem dX9_sumOf_15 : decode cX9_sumOf 15 = .ok (.if_icmp .ge 20, 3) := by decide +kernel
theorem dX9_sumOf_18 : decode cX9_sumOf 18 = .ok (.aload_n 3, 1) := by decide +kernel
theorem dX9_sumOf_19 : decode cX9_sumOf 19 = .ok (.iload 5, 2) := by decide +kernel
theorem dX9_sumOf_21 : decode cX9_sumOf 21 = .ok (.iaload, 1) := by decide +kernel
theorem dX9_sumOf_22 : decode cX9_sumOf 22 = .ok (.istore 6, 2) := by decide +kernel
theorem dX9_sumOf_24 : decode cX9_sumOf 24 = .ok (.iload_n 2, 1) := by decide +kernel
theorem dX9_sumOf_25 : decode cX9_sumOf 25 = .ok (.iload 6, 2) := by decide +kernel
theorem dX9_sumOf_27 : decode cX9_sumOf 27 = .ok (.iadd, 1) := by decide +kernel
theorem dX9_sumOf_28 : decode cX9_sumOf 28 = .ok (.istore_n 2, 1) := by decide +kernel
theorem dX9_sumOf_29 : decode cX9_sumOf 29 = .ok (.iinc 5 1, 3) := by decide +kernel
theorem dX9_sumOf_32 : decode cX9_sumOf 32 = .ok (.goto (-21), 3) := by decide +kernel
theorem dX9_sumOf_35 : decode cX9_sumOf 35 = .ok (.iload_n 2, 1) := by decide +kernel
theorem dX9_sumOf_36 : decode cX9_sumOf 36 = .ok (.ireturn, 1) := by decide +kernel
theorem dX10_init_0 : decode cX10_init 0 = .ok (.aload_n 0, 1) := by decide +kernel
theorem dX10_init_1 : decode cX10_init 1 = .ok (.invokespecial 3, 3) := by decide +kernel
theorem dX10_init_4 : decode cX10_init 4 = .ok (.aload_n 0, 1) := by decide +kernel
theorem dX10_init_5 : decode cX10_init 5 = .ok (.bipush 80, 2) := by decide +kernel
theorem dX10_init_7 : decode cX10_init 7 = .ok (.newarray .char, 2) := by decide +kernel
theorem dX10_init_9 : decode cX10_init 9 = .ok (.putfield 9, 3) := by decide +kernel
theorem dX10_init_12 : decode cX10_init 12 = .ok (.aload_n 0, 1) := by decide +kernel
theorem dX10_init_13 : decode cX10_init 13 = .ok (.iconst (-1), 1) := by decide +kernel
theorem dX10_init_14 : decode cX10_init 14 = .ok (.putfield 15, 3) := by decide +kernel
theorem dX10_init_17 : decode cX10_init 17 = .ok (.return_, 1) := by decide +kernel
theorem dX10_add_0 : decode cX10_add 0 = .ok (.aload_n 0, 1) := by decide +kernel
theorem dX10_add_1 : decode cX10_add 1 = .ok (.getfield 19, 3) := by decide +kernel
theorem dX10_add_4 : decode cX10_add 4 = .ok (.bipush 80, 2) := by decide +kernel
theorem dX10_add_6 : decode cX10_add 6 = .ok (.if_icmp .lt 5, 3) := by decide +kernel
theorem dX10_add_9 : decode cX10_add 9 = .ok (.iconst 0, 1) := by decide +kernel
theorem dX10_add_10 : decode cX10_add 10 = .ok (.ireturn, 1) := by decide +kernel
theorem dX10_add_11 : decode cX10_add 11 = .ok (.aload_n 0, 1) := by decide +kernel
theorem dX10_add_12 : decode cX10_add 12 = .ok (.getfield 9, 3) := by decide +kernel
theorem dX10_add_15 : decode cX10_add 15 = .ok (.aload_n 0, 1) := by decide +kernel
theorem dX10_add_16 : decode cX10_add 16 = .ok (.getfield 19, 3) := by decide +kernel
theorem dX10_add_19 : decode cX10_add 19 = .ok (.iload_n 1, 1) := by decide +kernel
theorem dX10_add_20 : decode cX10_add 20 = .ok (.castore, 1) := by decide +kernel
theorem dX10_add_21 : decode cX10_add 21 = .ok (.aload_n 0, 1) := by decide +kernel
theorem dX10_add_22 : decode cX10_add 22 = .ok (.dup, 1) := by decide +kernel
theorem dX10_add_23 : decode cX10_add 23 = .ok (.getfield 19, 3) := by decide +kernel
theorem dX10_add_26 : decode cX10_add 26 = .ok (.iconst 1, 1) := by decide +kernel
theorem dX10_add_27 : decode cX10_add 27 = .ok (.iadd, 1) := by decide +kernel
theorem dX10_add_28 : decode cX10_add 28 = .ok (.putfield 19, 3) := by decide +kernel
theorem dX10_add_31 : decode cX10_add 31 = .ok (.iconst 1, 1) := by decide +kernel
theorem dX10_add_32 : decode cX10_add 32 = .ok (.ireturn, 1) := by decide +kernel
theorem dX10_clear_0 : decode cX10_clear 0 = .ok (.aload_n 0, 1) := by decide +kernel
theorem dX10_clear_1 : decode cX10_clear 1 = .ok (.iconst 0, 1) := by decide +kernel
theorem dX10_clear_2 : decode cX10_clear 2 = .ok (.putfield 19, 3) := by decide +kernel
theorem dX10_clear_5 : decode cX10_clear 5 = .ok (.return_, 1) := by decide +kernel
theorem dX10_start_0 : decode cX10_start 0 = .ok (.aload_n 0, 1) := by decide +kernel
theorem dX10_start_1 : decode cX10_start 1 = .ok (.iconst 0, 1) := by decide +kernel
theorem dX10_start_2 : decode cX10_start 2 = .ok (.putfield 22, 3) := by decide +kernel
theorem dX10_start_5 : decode cX10_start 5 = .ok (.return_, 1) := by decide +kernel
theorem dX10_isAtEnd_0 : decode cX10_isAtEnd 0 = .ok (.aload_n 0, 1) := by decide +kernel
theorem dX10_isAtEnd_1 : decode cX10_isAtEnd 1 = .ok (.getfield 22, 3) := by decide +kernel
theorem dX10_isAtEnd_4 : decode cX10_isAtEnd 4 = .ok (.aload_n 0, 1) := by decide +kernel
theorem dX10_isAtEnd_5 : decode cX10_isAtEnd 5 = .ok (.getfield 19, 3) := by decide +kernel
theorem dX10_isAtEnd_8 : decode cX10_isAtEnd 8 = .ok (.if_icmp .lt 7, 3) := by decide +kernel
theorem dX10_isAtEnd_11 : decode cX10_isAtEnd 11 = .ok (.iconst 1, 1) := by decide +kernel
theorem dX10_isAtEnd_12 : decode cX10_isAtEnd 12 = .ok (.goto 4, 3) := by decide +kernel
theorem dX10_isAtEnd_15 : decode cX10_isAtEnd 15 = .ok (.iconst 0, 1) := by decide +kernel
theorem dX10_isAtEnd_16 : decode cX10_isAtEnd 16 = .ok (.ireturn, 1) := by decide +kernel
theorem dX10_skip_0 : decode cX10_skip 0 = .ok (.aload_n 0, 1) := by decide +kernel
theorem dX10_skip_1 : decode cX10_skip 1 = .ok (.invokevirtual 25, 3) := by decide +kernel
theorem dX10_skip_4 : decode cX10_skip 4 = .ok (.ifCond .ne 16, 3) := by decide +kernel
theorem dX10_skip_7 : decode cX10_skip 7 = .ok (.aload_n 0, 1) := by decide +kernel
theorem dX10_skip_8 : decode cX10_skip 8 = .ok (.getfield 9, 3) := by decide +kernel
theorem dX10_skip_11 : decode cX10_skip 11 = .ok (.aload_n 0, 1) := by decide +kernel
theorem dX10_skip_12 : decode cX10_skip 12 = .ok (.getfield 22, 3) := by decide +kernel
theorem dX10_skip_15 : decode cX10_skip 15 = .ok (.caload, 1) := by decide +kernel
theorem dX10_skip_16 : decode cX10_skip 16 = .ok (.iload_n 1, 1) := by decide +kernel
theorem dX10_skip_17 : decode cX10_skip 17 = .ok (.if_icmp .eq 5, 3) := by decide +kernel
theorem dX10_skip_20 : decode cX10_skip 20 = .ok (.iconst 0, 1) := by decide +kernel
theorem dX10_skip_21 : decode cX10_skip 21 = .ok (.ireturn, 1) := by decide +kernel
theorem dX10_skip_22 : decode cX10_skip 22 = .ok (.aload_n 0, 1) := by decide +kernel
theorem dX10_skip_23 : decode cX10_skip 23 = .ok (.dup, 1) := by decide +kernel
theorem dX10_skip_24 : decode cX10_skip 24 = .ok (.getfield 22, 3) := by decide +kernel
theorem dX10_skip_27 : decode cX10_skip 27 = .ok (.iconst 1, 1) := by decide +kernel
theorem dX10_skip_28 : decode cX10_skip 28 = .ok (.iadd, 1) := by decide +kernel
theorem dX10_skip_29 : decode cX10_skip 29 = .ok (.putfield 22, 3) := by decide +kernel
theorem dX10_skip_32 : decode cX10_skip 32 = .ok (.iconst 1, 1) := by decide +kernel
theorem dX10_skip_33 : decode cX10_skip 33 = .ok (.ireturn, 1) := by decide +kernel
theorem dX10_number_0 : decode cX10_number 0 = .ok (.iconst (-1), 1) := by decide +kernel
theorem dX10_number_1 : decode cX10_number 1 = .ok (.istore_n 2, 1) := by decide +kernel
theorem dX10_number_2 : decode cX10_number 2 = .ok (.iconst 0, 1) := by decide +kernel
theorem dX10_number_3 : decode cX10_number 3 = .ok (.istore_n 3, 1) := by decide +kernel
theorem dX10_number_4 : decode cX10_number 4 = .ok (.iload_n 3, 1) := by decide +kernel
theorem dX10_number_5 : decode cX10_number 5 = .ok (.iload_n 1, 1) := by decide +kernel
theorem dX10_number_6 : decode cX10_number 6 = .ok (.if_icmp .ge 48, 3) := by decide +kernel
theorem dX10_number_9 : decode cX10_number 9 = .ok (.aload_n 0, 1) := by decide +kernel
theorem dX10_number_10 : decode cX10_number 10 = .ok (.invokevirtual 29, 3) := by decide +kernel
theorem dX10_number_13 : decode cX10_number 13 = .ok (.ifCond .eq 41, 3) := by decide +kernel
theorem dX10_number_16 : decode cX10_number 16 = .ok (.iconst 0, 1) := by decide +kernel
theorem dX10_number_17 : decode cX10_number 17 = .ok (.iload_n 2, 1) := by decide +kernel
theorem dX10_number_18 : decode cX10_number 18 = .ok (.invokestatic 32, 3) := by decide +kernel
theorem dX10_number_21 : decode cX10_number 21 = .ok (.bipush 10, 2) := by decide +kernel
theorem dX10_number_23 : decode cX10_number 23 = .ok (.imul, 1) := by decide +kernel
theorem dX10_number_24 : decode cX10_number 24 = .ok (.aload_n 0, 1) := by decide +kernel
theorem dX10_number_25 : decode cX10_number 25 = .ok (.getfield 9, 3) := by decide +kernel
theorem dX10_number_28 : decode cX10_number 28 = .ok (.aload_n 0, 1) := by decide +kernel
theorem dX10_number_29 : decode cX10_number 29 = .ok (.getfield 22, 3) := by decide +kernel
theorem dX10_number_32 : decode cX10_number 32 = .ok (.caload, 1) := by decide +kernel
theorem dX10_number_33 : decode cX10_number 33 = .ok (.bipush 48, 2) := by decide +kernel
theorem dX10_number_35 : decode cX10_number 35 = .ok (.isub, 1) := by decide +kernel
theorem dX10_number_36 : decode cX10_number 36 = .ok (.iadd, 1) := by decide +kernel
theorem dX10_number_37 : decode cX10_number 37 = .ok (.istore_n 2, 1) := by decide +kernel
theorem dX10_number_38 : decode cX10_number 38 = .ok (.aload_n 0, 1) := by decide +kernel
theorem dX10_number_39 : decode cX10_number 39 = .ok (.dup, 1) := by decide +kernel
theorem dX10_number_40 : decode cX10_number 40 = .ok (.getfield 22, 3) := by decide +kernel
theorem dX10_number_43 : decode cX10_number 43 = .ok (.iconst 1, 1) := by decide +kernel
theorem dX10_number_44 : decode cX10_number 44 = .ok (.iadd, 1) := by decide +kernel
theorem dX10_number_45 : decode cX10_number 45 = .ok (.putfield 22, 3) := by decide +kernel
theorem dX10_number_48 : decode cX10_number 48 = .ok (.iinc 3 1, 3) := by decide +kernel
theorem dX10_number_51 : decode cX10_number 51 = .ok (.goto (-47), 3) := by decide +kernel
theorem dX10_number_54 : decode cX10_number 54 = .ok (.iload_n 2, 1) := by decide +kernel
theorem dX10_number_55 : decode cX10_number 55 = .ok (.ireturn, 1) := by decide +kernel
theorem dX10_isAtDigit_0 : decode cX10_isAtDigit 0 = .ok (.aload_n 0, 1) := by decide +kernel
theorem dX10_isAtDigit_1 : decode cX10_isAtDigit 1 = .ok (.getfield 22, 3) := by decide +kernel
theorem dX10_isAtDigit_4 : decode cX10_isAtDigit 4 = .ok (.aload_n 0, 1) := by decide +kernel
theorem dX10_isAtDigit_5 : decode cX10_isAtDigit 5 = .ok (.getfield 19, 3) := by decide +kernel
theorem dX10_isAtDigit_8 : decode cX10_isAtDigit 8 = .ok (.if_icmp .ge 35, 3) := by decide +kernel
theorem dX10_isAtDigit_11 : decode cX10_isAtDigit 11 = .ok (.aload_n 0, 1) := by decide +kernel
theorem dX10_isAtDigit_12 : decode cX10_isAtDigit 12 = .ok (.getfield 9, 3) := by decide +kernel
theorem dX10_isAtDigit_15 : decode cX10_isAtDigit 15 = .ok (.aload_n 0, 1) := by decide +kernel
theorem dX10_isAtDigit_16 : decode cX10_isAtDigit 16 = .ok (.getfield 22, 3) := by decide +kernel
theorem dX10_isAtDigit_19 : decode cX10_isAtDigit 19 = .ok (.caload, 1) := by decide +kernel
theorem dX10_isAtDigit_20 : decode cX10_isAtDigit 20 = .ok (.bipush 48, 2) := by decide +kernel
theorem dX10_isAtDigit_22 : decode cX10_isAtDigit 22 = .ok (.if_icmp .lt 21, 3) := by decide +kernel
theorem dX10_isAtDigit_25 : decode cX10_isAtDigit 25 = .ok (.aload_n 0, 1) := by decide +kernel
theorem dX10_isAtDigit_26 : decode cX10_isAtDigit 26 = .ok (.getfield 9, 3) := by decide +kernel
theorem dX10_isAtDigit_29 : decode cX10_isAtDigit 29 = .ok (.aload_n 0, 1) := by decide +kernel
theorem dX10_isAtDigit_30 : decode cX10_isAtDigit 30 = .ok (.getfield 22, 3) := by decide +kernel
theorem dX10_isAtDigit_33 : decode cX10_isAtDigit 33 = .ok (.caload, 1) := by decide +kernel
theorem dX10_isAtDigit_34 : decode cX10_isAtDigit 34 = .ok (.bipush 57, 2) := by decide +kernel
theorem dX10_isAtDigit_36 : decode cX10_isAtDigit 36 = .ok (.if_icmp .gt 7, 3) := by decide +kernel
theorem dX10_isAtDigit_39 : decode cX10_isAtDigit 39 = .ok (.iconst 1, 1) := by decide +kernel
theorem dX10_isAtDigit_40 : decode cX10_isAtDigit 40 = .ok (.goto 4, 3) := by decide +kernel
theorem dX10_isAtDigit_43 : decode cX10_isAtDigit 43 = .ok (.iconst 0, 1) := by decide +kernel
theorem dX10_isAtDigit_44 : decode cX10_isAtDigit 44 = .ok (.ireturn, 1) := by decide +kernel
theorem dX10_end_0 : decode cX10_end 0 = .ok (.aload_n 0, 1) := by decide +kernel
theorem dX10_end_1 : decode cX10_end 1 = .ok (.iload_n 1, 1) := by decide +kernel
theorem dX10_end_2 : decode cX10_end 2 = .ok (.ifCond .eq 7, 3) := by decide +kernel
theorem dX10_end_5 : decode cX10_end 5 = .ok (.iconst (-1), 1) := by decide +kernel
theorem dX10_end_6 : decode cX10_end 6 = .ok (.goto 7, 3) := by decide +kernel
theorem dX10_end_9 : decode cX10_end 9 = .ok (.aload_n 0, 1) := by decide +kernel
theorem dX10_end_10 : decode cX10_end 10 = .ok (.getfield 22, 3) := by decide +kernel
theorem dX10_end_13 : decode cX10_end 13 = .ok (.putfield 15, 3) := by decide +kernel
theorem dX10_end_16 : decode cX10_end 16 = .ok (.iload_n 1, 1) := by decide +kernel
theorem dX10_end_17 : decode cX10_end 17 = .ok (.ireturn, 1) := by decide +kernel
theorem dX11_init_0 : decode cX11_init 0 = .ok (.aload_n 0, 1) := by decide +kernel
theorem dX11_init_1 : decode cX11_init 1 = .ok (.invokespecial 3, 3) := by decide +kernel
theorem dX11_init_4 : decode cX11_init 4 = .ok (.aload_n 0, 1) := by decide +kernel
theorem dX11_init_5 : decode cX11_init 5 = .ok (.new 9, 3) := by decide +kernel
theorem dX11_init_8 : decode cX11_init 8 = .ok (.dup, 1) := by decide +kernel
theorem dX11_init_9 : decode cX11_init 9 = .ok (.invokespecial 11, 3) := by decide +kernel
theorem dX11_init_12 : decode cX11_init 12 = .ok (.putfield 12, 3) := by decide +kernel
theorem dX11_init_15 : decode cX11_init 15 = .ok (.aload_n 0, 1) := by decide +kernel
theorem dX11_init_16 : decode cX11_init 16 = .ok (.new 9, 3) := by decide +kernel
theorem dX11_init_19 : decode cX11_init 19 = .ok (.dup, 1) := by decide +kernel
theorem dX11_init_20 : decode cX11_init 20 = .ok (.invokespecial 11, 3) := by decide +kernel
theorem dX11_init_23 : decode cX11_init 23 = .ok (.putfield 16, 3) := by decide +kernel
theorem dX11_init_26 : decode cX11_init 26 = .ok (.aload_n 0, 1) := by decide +kernel
theorem dX11_init_27 : decode cX11_init 27 = .ok (.new 19, 3) := by decide +kernel
theorem dX11_init_30 : decode cX11_init 30 = .ok (.dup, 1) := by decide +kernel
theorem dX11_init_31 : decode cX11_init 31 = .ok (.invokespecial 21, 3) := by decide +kernel
theorem dX11_init_34 : decode cX11_init 34 = .ok (.putfield 22, 3) := by decide +kernel
theorem dX11_init_37 : decode cX11_init 37 = .ok (.aload_n 0, 1) := by decide +kernel
theorem dX11_init_38 : decode cX11_init 38 = .ok (.new 26, 3) := by decide +kernel
theorem dX11_init_41 : decode cX11_init 41 = .ok (.dup, 1) := by decide +kernel
theorem dX11_init_42 : decode cX11_init 42 = .ok (.invokespecial 28, 3) := by decide +kernel
theorem dX11_init_45 : decode cX11_init 45 = .ok (.putfield 29, 3) := by decide +kernel
theorem dX11_init_48 : decode cX11_init 48 = .ok (.aload_n 0, 1) := by decide +kernel
theorem dX11_init_49 : decode cX11_init 49 = .ok (.new 33, 3) := by decide +kernel
theorem dX11_init_52 : decode cX11_init 52 = .ok (.dup, 1) := by decide +kernel
theorem dX11_init_53 : decode cX11_init 53 = .ok (.invokespecial 35, 3) := by decide +kernel
theorem dX11_init_56 : decode cX11_init 56 = .ok (.putfield 36, 3) := by decide +kernel
theorem dX11_init_59 : decode cX11_init 59 = .ok (.aload_n 0, 1) := by decide +kernel
theorem dX11_init_60 : decode cX11_init 60 = .ok (.new 40, 3) := by decide +kernel
theorem dX11_init_63 : decode cX11_init 63 = .ok (.dup, 1) := by decide +kernel
theorem dX11_init_64 : decode cX11_init 64 = .ok (.invokespecial 42, 3) := by decide +kernel
theorem dX11_init_67 : decode cX11_init 67 = .ok (.putfield 43, 3) := by decide +kernel
theorem dX11_init_70 : decode cX11_init 70 = .ok (.aload_n 0, 1) := by decide +kernel
theorem dX11_init_71 : decode cX11_init 71 = .ok (.new 47, 3) := by decide +kernel
theorem dX11_init_74 : decode cX11_init 74 = .ok (.dup, 1) := by decide +kernel
theorem dX11_init_75 : decode cX11_init 75 = .ok (.invokespecial 49, 3) := by decide +kernel
theorem dX11_init_78 : decode cX11_init 78 = .ok (.putfield 50, 3) := by decide +kernel
theorem dX11_init_81 : decode cX11_init 81 = .ok (.aload_n 0, 1) := by decide +kernel
theorem dX11_init_82 : decode cX11_init 82 = .ok (.new 54, 3) := by decide +kernel
theorem dX11_init_85 : decode cX11_init 85 = .ok (.dup, 1) := by decide +kernel
theorem dX11_init_86 : decode cX11_init 86 = .ok (.invokespecial 56, 3) := by decide +kernel
theorem dX11_init_89 : decode cX11_init 89 = .ok (.putfield 57, 3) := by decide +kernel
theorem dX11_init_92 : decode cX11_init 92 = .ok (.return_, 1) := by decide +kernel
theorem dX11_append_0 : decode cX11_append 0 = .ok (.aload_n 0, 1) := by decide +kernel
theorem dX11_append_1 : decode cX11_append 1 = .ok (.getfield 36, 3) := by decide +kernel
theorem dX11_append_4 : decode cX11_append 4 = .ok (.iload_n 1, 1) := by decide +kernel
theorem dX11_append_5 : decode cX11_append 5 = .ok (.invokevirtual 61, 3) := by decide +kernel
theorem dX11_append_8 : decode cX11_append 8 = .ok (.ifCond .ne 13, 3) := by decide +kernel
theorem dX11_append_11 : decode cX11_append 11 = .ok (.new 65, 3) := by decide +kernel
theorem dX11_append_14 : decode cX11_append 14 = .ok (.dup, 1) := by decide +kernel
theorem dX11_append_15 : decode cX11_append 15 = .ok (.ldc 67, 2) := by decide +kernel
theorem dX11_append_17 : decode cX11_append 17 = .ok (.invokespecial 69, 3) := by decide +kernel
theorem dX11_append_20 : decode cX11_append 20 = .ok (.athrow, 1) := by decide +kernel
theorem dX11_append_21 : decode cX11_append 21 = .ok (.aload_n 0, 1) := by decide +kernel
theorem dX11_append_22 : decode cX11_append 22 = .ok (.getfield 36, 3) := by decide +kernel
theorem dX11_append_25 : decode cX11_append 25 = .ok (.getfield 72, 3) := by decide +kernel
theorem dX11_append_28 : decode cX11_append 28 = .ok (.ireturn, 1) := by decide +kernel
theorem dX11_colour_0 : decode cX11_colour 0 = .ok (.aload_n 0, 1) := by decide +kernel
theorem dX11_colour_1 : decode cX11_colour 1 = .ok (.getfield 22, 3) := by decide +kernel
theorem dX11_colour_4 : decode cX11_colour 4 = .ok (.aload_n 0, 1) := by decide +kernel
theorem dX11_colour_5 : decode cX11_colour 5 = .ok (.getfield 12, 3) := by decide +kernel
theorem dX11_colour_8 : decode cX11_colour 8 = .ok (.invokevirtual 76, 3) := by decide +kernel
theorem dX11_colour_11 : decode cX11_colour 11 = .ok (.aload_n 0, 1) := by decide +kernel
theorem dX11_colour_12 : decode cX11_colour 12 = .ok (.aload_n 0, 1) := by decide +kernel
theorem dX11_colour_13 : decode cX11_colour 13 = .ok (.getfield 12, 3) := by decide +kernel
theorem dX11_colour_16 : decode cX11_colour 16 = .ok (.getfield 80, 3) := by decide +kernel
theorem dX11_colour_19 : decode cX11_colour 19 = .ok (.iload_n 1, 1) := by decide +kernel
theorem dX11_colour_20 : decode cX11_colour 20 = .ok (.aload_n 0, 1) := by decide +kernel
theorem dX11_colour_21 : decode cX11_colour 21 = .ok (.getfield 29, 3) := by decide +kernel
theorem dX11_colour_24 : decode cX11_colour 24 = .ok (.invokevirtual 84, 3) := by decide +kernel
theorem dX11_colour_27 : decode cX11_colour 27 = .ok (.invokevirtual 90, 3) := by decide +kernel
theorem dX11_colour_30 : decode cX11_colour 30 = .ok (.ireturn, 1) := by decide +kernel
theorem dX11_part_0 : decode cX11_part 0 = .ok (.aload_n 0, 1) := by decide +kernel
theorem dX11_part_1 : decode cX11_part 1 = .ok (.getfield 22, 3) := by decide +kernel
theorem dX11_part_4 : decode cX11_part 4 = .ok (.aload_n 0, 1) := by decide +kernel
theorem dX11_part_5 : decode cX11_part 5 = .ok (.getfield 12, 3) := by decide +kernel
theorem dX11_part_8 : decode cX11_part 8 = .ok (.invokevirtual 76, 3) := by decide +kernel
theorem dX11_part_11 : decode cX11_part 11 = .ok (.aload_n 0, 1) := by decide +kernel
theorem dX11_part_12 : decode cX11_part 12 = .ok (.aload_n 0, 1) := by decide +kernel
theorem dX11_part_13 : decode cX11_part 13 = .ok (.getfield 12, 3) := by decide +kernel
theorem dX11_part_16 : decode cX11_part 16 = .ok (.getfield 80, 3) := by decide +kernel
theorem dX11_part_19 : decode cX11_part 19 = .ok (.iload_n 1, 1) := by decide +kernel
theorem dX11_part_20 : decode cX11_part 20 = .ok (.aload_n 0, 1) := by decide +kernel
theorem dX11_part_21 : decode cX11_part 21 = .ok (.getfield 29, 3) := by decide +kernel
theorem dX11_part_24 : decode cX11_part 24 = .ok (.invokevirtual 94, 3) := by decide +kernel
theorem dX11_part_27 : decode cX11_part 27 = .ok (.invokevirtual 90, 3) := by decide +kernel
theorem dX11_part_30 : decode cX11_part 30 = .ok (.ireturn, 1) := by decide +kernel
theorem dX11_family_0 : decode cX11_family 0 = .ok (.aload_n 0, 1) := by decide +kernel
theorem dX11_family_1 : decode cX11_family 1 = .ok (.getfield 43, 3) := by decide +kernel
theorem dX11_family_4 : decode cX11_family 4 = .ok (.aload_n 0, 1) := by decide +kernel
theorem dX11_family_5 : decode cX11_family 5 = .ok (.getfield 36, 3) := by decide +kernel
theorem dX11_family_8 : decode cX11_family 8 = .ok (.invokevirtual 97, 3) := by decide +kernel
theorem dX11_family_11 : decode cX11_family 11 = .ok (.istore_n 1, 1) := by decide +kernel
theorem dX11_family_12 : decode cX11_family 12 = .ok (.aload_n 0, 1) := by decide +kernel
theorem dX11_family_13 : decode cX11_family 13 = .ok (.getfield 36, 3) := by decide +kernel
theorem dX11_family_16 : decode cX11_family 16 = .ok (.invokevirtual 101, 3) := by decide +kernel
theorem dX11_family_19 : decode cX11_family 19 = .ok (.iload_n 1, 1) := by decide +kernel
theorem dX11_family_20 : decode cX11_family 20 = .ok (.ifCond .ne 13, 3) := by decide +kernel
theorem dX11_family_23 : decode cX11_family 23 = .ok (.new 104, 3) := by decide +kernel
theorem dX11_family_26 : decode cX11_family 26 = .ok (.dup, 1) := by decide +kernel
theorem dX11_family_27 : decode cX11_family 27 = .ok (.ldc 106, 2) := by decide +kernel
theorem dX11_family_29 : decode cX11_family 29 = .ok (.invokespecial 108, 3) := by decide +kernel
theorem dX11_family_32 : decode cX11_family 32 = .ok (.athrow, 1) := by decide +kernel
theorem dX11_family_33 : decode cX11_family 33 = .ok (.aload_n 0, 1) := by decide +kernel
theorem dX11_family_34 : decode cX11_family 34 = .ok (.getfield 22, 3) := by decide +kernel
theorem dX11_family_37 : decode cX11_family 37 = .ok (.aload_n 0, 1) := by decide +kernel
theorem dX11_family_38 : decode cX11_family 38 = .ok (.getfield 12, 3) := by decide +kernel
theorem dX11_family_41 : decode cX11_family 41 = .ok (.invokevirtual 76, 3) := by decide +kernel
theorem dX11_family_44 : decode cX11_family 44 = .ok (.aload_n 0, 1) := by decide +kernel
theorem dX11_family_45 : decode cX11_family 45 = .ok (.aload_n 0, 1) := by decide +kernel
theorem dX11_family_46 : decode cX11_family 46 = .ok (.getfield 12, 3) := by decide +kernel
theorem dX11_family_49 : decode cX11_family 49 = .ok (.getfield 80, 3) := by decide +kernel
theorem dX11_family_52 : decode cX11_family 52 = .ok (.aload_n 0, 1) := by decide +kernel
theorem dX11_family_53 : decode cX11_family 53 = .ok (.getfield 43, 3) := by decide +kernel
theorem dX11_family_56 : decode cX11_family 56 = .ok (.aload_n 0, 1) := by decide +kernel
theorem dX11_family_57 : decode cX11_family 57 = .ok (.getfield 29, 3) := by decide +kernel
theorem dX11_family_60 : decode cX11_family 60 = .ok (.invokevirtual 109, 3) := by decide +kernel
theorem dX11_family_63 : decode cX11_family 63 = .ok (.invokevirtual 90, 3) := by decide +kernel
theorem dX11_family_66 : decode cX11_family 66 = .ok (.ireturn, 1) := by decide +kernel
theorem dX11_program_0 : decode cX11_program 0 = .ok (.aload_n 0, 1) := by decide +kernel
theorem dX11_program_1 : decode cX11_program 1 = .ok (.getfield 50, 3) := by decide +kernel
theorem dX11_program_4 : decode cX11_program 4 = .ok (.aload_n 0, 1) := by decide +kernel
theorem dX11_program_5 : decode cX11_program 5 = .ok (.getfield 36, 3) := by decide +kernel
theorem dX11_program_8 : decode cX11_program 8 = .ok (.invokevirtual 113, 3) := by decide +kernel
theorem dX11_program_11 : decode cX11_program 11 = .ok (.istore_n 1, 1) := by decide +kernel
theorem dX11_program_12 : decode cX11_program 12 = .ok (.aload_n 0, 1) := by decide +kernel
theorem dX11_program_13 : decode cX11_program 13 = .ok (.getfield 36, 3) := by decide +kernel
theorem dX11_program_16 : decode cX11_program 16 = .ok (.invokevirtual 101, 3) := by decide +kernel
theorem dX11_program_19 : decode cX11_program 19 = .ok (.iload_n 1, 1) := by decide +kernel
theorem dX11_program_20 : decode cX11_program 20 = .ok (.ifCond .ne 13, 3) := by decide +kernel
theorem dX11_program_23 : decode cX11_program 23 = .ok (.new 104, 3) := by decide +kernel
theorem dX11_program_26 : decode cX11_program 26 = .ok (.dup, 1) := by decide +kernel
theorem dX11_program_27 : decode cX11_program 27 = .ok (.ldc 114, 2) := by decide +kernel
theorem dX11_program_29 : decode cX11_program 29 = .ok (.invokespecial 108, 3) := by decide +kernel
theorem dX11_program_32 : decode cX11_program 32 = .ok (.athrow, 1) := by decide +kernel
theorem dX11_program_33 : decode cX11_program 33 = .ok (.aload_n 0, 1) := by decide +kernel
theorem dX11_program_34 : decode cX11_program 34 = .ok (.getfield 22, 3) := by decide +kernel
theorem dX11_program_37 : decode cX11_program 37 = .ok (.aload_n 0, 1) := by decide +kernel
theorem dX11_program_38 : decode cX11_program 38 = .ok (.getfield 12, 3) := by decide +kernel
theorem dX11_program_41 : decode cX11_program 41 = .ok (.invokevirtual 76, 3) := by decide +kernel
theorem dX11_program_44 : decode cX11_program 44 = .ok (.iconst 0, 1) := by decide +kernel
theorem dX11_program_45 : decode cX11_program 45 = .ok (.istore_n 2, 1) := by decide +kernel
theorem dX11_program_46 : decode cX11_program 46 = .ok (.iload_n 2, 1) := by decide +kernel
theorem dX11_program_47 : decode cX11_program 47 = .ok (.aload_n 0, 1) := by decide +kernel
theorem dX11_program_48 : decode cX11_program 48 = .ok (.getfield 50, 3) := by decide +kernel
theorem dX11_program_51 : decode cX11_program 51 = .ok (.getfield 116, 3) := by decide +kernel
theorem dX11_program_54 : decode cX11_program 54 = .ok (.if_icmp .ge 49, 3) := by decide +kernel
theorem dX11_program_57 : decode cX11_program 57 = .ok (.aload_n 0, 1) := by decide +kernel
theorem dX11_program_58 : decode cX11_program 58 = .ok (.iload_n 2, 1) := by decide +kernel
theorem dX11_program_59 : decode cX11_program 59 = .ok (.invokevirtual 119, 3) := by decide +kernel
theorem dX11_program_62 : decode cX11_program 62 = .ok (.iconst (-1), 1) := by decide +kernel
theorem dX11_program_63 : decode cX11_program 63 = .ok (.if_icmp .ne 34, 3) := by decide +kernel
theorem dX11_program_66 : decode cX11_program 66 = .ok (.aload_n 0, 1) := by decide +kernel
theorem dX11_program_67 : decode cX11_program 67 = .ok (.getfield 29, 3) := by decide +kernel
theorem dX11_program_70 : decode cX11_program 70 = .ok (.bipush 13, 2) := by decide +kernel
theorem dX11_program_72 : decode cX11_program 72 = .ok (.iload_n 2, 1) := by decide +kernel
theorem dX11_program_73 : decode cX11_program 73 = .ok (.invokevirtual 122, 3) := by decide +kernel
theorem dX11_program_76 : decode cX11_program 76 = .ok (.aload_n 0, 1) := by decide +kernel
theorem dX11_program_77 : decode cX11_program 77 = .ok (.getfield 22, 3) := by decide +kernel
theorem dX11_program_80 : decode cX11_program 80 = .ok (.aload_n 0, 1) := by decide +kernel
theorem dX11_program_81 : decode cX11_program 81 = .ok (.getfield 12, 3) := by decide +kernel
theorem dX11_program_84 : decode cX11_program 84 = .ok (.invokevirtual 126, 3) := by decide +kernel
theorem dX11_program_87 : decode cX11_program 87 = .ok (.new 129, 3) := by decide +kernel
theorem dX11_program_90 : decode cX11_program 90 = .ok (.dup, 1) := by decide +kernel
theorem dX11_program_91 : decode cX11_program 91 = .ok (.ldc 131, 2) := by decide +kernel
theorem dX11_program_93 : decode cX11_program 93 = .ok (.invokespecial 133, 3) := by decide +kernel
theorem dX11_program_96 : decode cX11_program 96 = .ok (.athrow, 1) := by decide +kernel
theorem dX11_program_97 : decode cX11_program 97 = .ok (.iinc 2 1, 3) := by decide +kernel
theorem dX11_program_100 : decode cX11_program 100 = .ok (.goto (-54), 3) := by decide +kernel
theorem dX11_program_103 : decode cX11_program 103 = .ok (.aload_n 0, 1) := by decide +kernel
theorem dX11_program_104 : decode cX11_program 104 = .ok (.aload_n 0, 1) := by decide +kernel
theorem dX11_program_105 : decode cX11_program 105 = .ok (.getfield 50, 3) := by decide +kernel
theorem dX11_program_108 : decode cX11_program 108 = .ok (.getfield 116, 3) := by decide +kernel
theorem dX11_program_111 : decode cX11_program 111 = .ok (.invokevirtual 90, 3) := by decide +kernel
theorem dX11_program_114 : decode cX11_program 114 = .ok (.ireturn, 1) := by decide +kernel
theorem dX11_faultPosition_0 : decode cX11_faultPosition 0 = .ok (.aload_n 0, 1) := by decide +kernel
theorem dX11_faultPosition_1 : decode cX11_faultPosition 1 = .ok (.getfield 36, 3) := by decide +kernel
theorem dX11_faultPosition_4 : decode cX11_faultPosition 4 = .ok (.getfield 134, 3) := by decide +kernel
theorem dX11_faultPosition_7 : decode cX11_faultPosition 7 = .ok (.ireturn, 1) := by decide +kernel
theorem dX11_mount_0 : decode cX11_mount 0 = .ok (.aload_n 0, 1) := by decide +kernel
theorem dX11_mount_1 : decode cX11_mount 1 = .ok (.getfield 22, 3) := by decide +kernel
theorem dX11_mount_4 : decode cX11_mount 4 = .ok (.aload_n 0, 1) := by decide +kernel
theorem dX11_mount_5 : decode cX11_mount 5 = .ok (.getfield 12, 3) := by decide +kernel
theorem dX11_mount_8 : decode cX11_mount 8 = .ok (.invokevirtual 76, 3) := by decide +kernel
theorem dX11_mount_11 : decode cX11_mount 11 = .ok (.aload_n 0, 1) := by decide +kernel
theorem dX11_mount_12 : decode cX11_mount 12 = .ok (.aload_n 0, 1) := by decide +kernel
theorem dX11_mount_13 : decode cX11_mount 13 = .ok (.getfield 12, 3) := by decide +kernel
theorem dX11_mount_16 : decode cX11_mount 16 = .ok (.iload_n 1, 1) := by decide +kernel
theorem dX11_mount_17 : decode cX11_mount 17 = .ok (.aload_n 0, 1) := by decide +kernel
theorem dX11_mount_18 : decode cX11_mount 18 = .ok (.getfield 29, 3) := by decide +kernel
theorem dX11_mount_21 : decode cX11_mount 21 = .ok (.invokevirtual 137, 3) := by decide +kernel
theorem dX11_mount_24 : decode cX11_mount 24 = .ok (.invokevirtual 90, 3) := by decide +kernel
theorem dX11_mount_27 : decode cX11_mount 27 = .ok (.ireturn, 1) := by decide +kernel
theorem dX11_load_0 : decode cX11_load 0 = .ok (.aload_n 0, 1) := by decide +kernel
theorem dX11_load_1 : decode cX11_load 1 = .ok (.getfield 22, 3) := by decide +kernel
theorem dX11_load_4 : decode cX11_load 4 = .ok (.aload_n 0, 1) := by decide +kernel
theorem dX11_load_5 : decode cX11_load 5 = .ok (.getfield 12, 3) := by decide +kernel
theorem dX11_load_8 : decode cX11_load 8 = .ok (.invokevirtual 76, 3) := by decide +kernel
theorem dX11_load_11 : decode cX11_load 11 = .ok (.aload_n 0, 1) := by decide +kernel
theorem dX11_load_12 : decode cX11_load 12 = .ok (.aload_n 0, 1) := by decide +kernel
theorem dX11_load_13 : decode cX11_load 13 = .ok (.getfield 12, 3) := by decide +kernel
theorem dX11_load_16 : decode cX11_load 16 = .ok (.iload_n 1, 1) := by decide +kernel
theorem dX11_load_17 : decode cX11_load 17 = .ok (.iload_n 2, 1) := by decide +kernel
theorem dX11_load_18 : decode cX11_load 18 = .ok (.iload_n 3, 1) := by decide +kernel
theorem dX11_load_19 : decode cX11_load 19 = .ok (.aload_n 0, 1) := by decide +kernel
theorem dX11_load_20 : decode cX11_load 20 = .ok (.getfield 29, 3) := by decide +kernel
theorem dX11_load_23 : decode cX11_load 23 = .ok (.invokevirtual 140, 3) := by decide +kernel
theorem dX11_load_26 : decode cX11_load 26 = .ok (.invokevirtual 90, 3) := by decide +kernel
theorem dX11_load_29 : decode cX11_load 29 = .ok (.ireturn, 1) := by decide +kernel
theorem dX11_empty_0 : decode cX11_empty 0 = .ok (.aload_n 0, 1) := by decide +kernel
theorem dX11_empty_1 : decode cX11_empty 1 = .ok (.getfield 22, 3) := by decide +kernel
theorem dX11_empty_4 : decode cX11_empty 4 = .ok (.aload_n 0, 1) := by decide +kernel
theorem dX11_empty_5 : decode cX11_empty 5 = .ok (.getfield 12, 3) := by decide +kernel
theorem dX11_empty_8 : decode cX11_empty 8 = .ok (.invokevirtual 76, 3) := by decide +kernel
theorem dX11_empty_11 : decode cX11_empty 11 = .ok (.aload_n 0, 1) := by decide +kernel
theorem dX11_empty_12 : decode cX11_empty 12 = .ok (.aload_n 0, 1) := by decide +kernel
theorem dX11_empty_13 : decode cX11_empty 13 = .ok (.getfield 12, 3) := by decide +kernel
theorem dX11_empty_16 : decode cX11_empty 16 = .ok (.getfield 144, 3) := by decide +kernel
theorem dX11_empty_19 : decode cX11_empty 19 = .ok (.iload_n 1, 1) := by decide +kernel
theorem dX11_empty_20 : decode cX11_empty 20 = .ok (.aload_n 0, 1) := by decide +kernel
theorem dX11_empty_21 : decode cX11_empty 21 = .ok (.getfield 29, 3) := by decide +kernel
theorem dX11_empty_24 : decode cX11_empty 24 = .ok (.invokevirtual 148, 3) := by decide +kernel
theorem dX11_empty_27 : decode cX11_empty 27 = .ok (.invokevirtual 90, 3) := by decide +kernel
theorem dX11_empty_30 : decode cX11_empty 30 = .ok (.ireturn, 1) := by decide +kernel
theorem dX11_pause_0 : decode cX11_pause 0 = .ok (.aload_n 0, 1) := by decide +kernel
theorem dX11_pause_1 : decode cX11_pause 1 = .ok (.getfield 22, 3) := by decide +kernel
theorem dX11_pause_4 : decode cX11_pause 4 = .ok (.aload_n 0, 1) := by decide +kernel
theorem dX11_pause_5 : decode cX11_pause 5 = .ok (.getfield 12, 3) := by decide +kernel
theorem dX11_pause_8 : decode cX11_pause 8 = .ok (.invokevirtual 76, 3) := by decide +kernel
theorem dX11_pause_11 : decode cX11_pause 11 = .ok (.aload_n 0, 1) := by decide +kernel
theorem dX11_pause_12 : decode cX11_pause 12 = .ok (.aload_n 0, 1) := by decide +kernel
theorem dX11_pause_13 : decode cX11_pause 13 = .ok (.getfield 12, 3) := by decide +kernel
theorem dX11_pause_16 : decode cX11_pause 16 = .ok (.iload_n 1, 1) := by decide +kernel
theorem dX11_pause_17 : decode cX11_pause 17 = .ok (.aload_n 0, 1) := by decide +kernel
theorem dX11_pause_18 : decode cX11_pause 18 = .ok (.getfield 29, 3) := by decide +kernel
theorem dX11_pause_21 : decode cX11_pause 21 = .ok (.invokevirtual 153, 3) := by decide +kernel
theorem dX11_pause_24 : decode cX11_pause 24 = .ok (.invokevirtual 90, 3) := by decide +kernel
theorem dX11_pause_27 : decode cX11_pause 27 = .ok (.ireturn, 1) := by decide +kernel
theorem dX11_run_0 : decode cX11_run 0 = .ok (.aload_n 0, 1) := by decide +kernel
theorem dX11_run_1 : decode cX11_run 1 = .ok (.getfield 22, 3) := by decide +kernel
theorem dX11_run_4 : decode cX11_run 4 = .ok (.aload_n 0, 1) := by decide +kernel
theorem dX11_run_5 : decode cX11_run 5 = .ok (.getfield 12, 3) := by decide +kernel
theorem dX11_run_8 : decode cX11_run 8 = .ok (.invokevirtual 76, 3) := by decide +kernel
theorem dX11_run_11 : decode cX11_run 11 = .ok (.aload_n 0, 1) := by decide +kernel
theorem dX11_run_12 : decode cX11_run 12 = .ok (.aload_n 0, 1) := by decide +kernel
theorem dX11_run_13 : decode cX11_run 13 = .ok (.getfield 12, 3) := by decide +kernel
theorem dX11_run_16 : decode cX11_run 16 = .ok (.iload_n 1, 1) := by decide +kernel
theorem dX11_run_17 : decode cX11_run 17 = .ok (.iload_n 2, 1) := by decide +kernel
theorem dX11_run_18 : decode cX11_run 18 = .ok (.aload_n 0, 1) := by decide +kernel
theorem dX11_run_19 : decode cX11_run 19 = .ok (.getfield 29, 3) := by decide +kernel
theorem dX11_run_22 : decode cX11_run 22 = .ok (.invokevirtual 156, 3) := by decide +kernel
theorem dX11_run_25 : decode cX11_run 25 = .ok (.invokevirtual 90, 3) := by decide +kernel
theorem dX11_run_28 : decode cX11_run 28 = .ok (.ireturn, 1) := by decide +kernel
theorem dX11_order_0 : decode cX11_order 0 = .ok (.aload_n 0, 1) := by decide +kernel
theorem dX11_order_1 : decode cX11_order 1 = .ok (.getfield 22, 3) := by decide +kernel
theorem dX11_order_4 : decode cX11_order 4 = .ok (.aload_n 0, 1) := by decide +kernel
theorem dX11_order_5 : decode cX11_order 5 = .ok (.getfield 12, 3) := by decide +kernel
theorem dX11_order_8 : decode cX11_order 8 = .ok (.invokevirtual 76, 3) := by decide +kernel
theorem dX11_order_11 : decode cX11_order 11 = .ok (.aload_n 0, 1) := by decide +kernel
theorem dX11_order_12 : decode cX11_order 12 = .ok (.aload_n 0, 1) := by decide +kernel
theorem dX11_order_13 : decode cX11_order 13 = .ok (.getfield 12, 3) := by decide +kernel
theorem dX11_order_16 : decode cX11_order 16 = .ok (.iload_n 1, 1) := by decide +kernel
theorem dX11_order_17 : decode cX11_order 17 = .ok (.iload_n 2, 1) := by decide +kernel
theorem dX11_order_18 : decode cX11_order 18 = .ok (.iload_n 3, 1) := by decide +kernel
theorem dX11_order_19 : decode cX11_order 19 = .ok (.iload 4, 2) := by decide +kernel
theorem dX11_order_21 : decode cX11_order 21 = .ok (.aload_n 0, 1) := by decide +kernel
theorem dX11_order_22 : decode cX11_order 22 = .ok (.getfield 29, 3) := by decide +kernel
theorem dX11_order_25 : decode cX11_order 25 = .ok (.invokevirtual 160, 3) := by decide +kernel
theorem dX11_order_28 : decode cX11_order 28 = .ok (.invokevirtual 90, 3) := by decide +kernel
theorem dX11_order_31 : decode cX11_order 31 = .ok (.ireturn, 1) := by decide +kernel
theorem dX11_callOff_0 : decode cX11_callOff 0 = .ok (.aload_n 0, 1) := by decide +kernel
theorem dX11_callOff_1 : decode cX11_callOff 1 = .ok (.getfield 22, 3) := by decide +kernel
theorem dX11_callOff_4 : decode cX11_callOff 4 = .ok (.aload_n 0, 1) := by decide +kernel
theorem dX11_callOff_5 : decode cX11_callOff 5 = .ok (.getfield 12, 3) := by decide +kernel
theorem dX11_callOff_8 : decode cX11_callOff 8 = .ok (.invokevirtual 76, 3) := by decide +kernel
theorem dX11_callOff_11 : decode cX11_callOff 11 = .ok (.aload_n 0, 1) := by decide +kernel
theorem dX11_callOff_12 : decode cX11_callOff 12 = .ok (.aload_n 0, 1) := by decide +kernel
theorem dX11_callOff_13 : decode cX11_callOff 13 = .ok (.getfield 12, 3) := by decide +kernel
theorem dX11_callOff_16 : decode cX11_callOff 16 = .ok (.getfield 164, 3) := by decide +kernel
theorem dX11_callOff_19 : decode cX11_callOff 19 = .ok (.iload_n 1, 1) := by decide +kernel
theorem dX11_callOff_20 : decode cX11_callOff 20 = .ok (.aload_n 0, 1) := by decide +kernel
theorem dX11_callOff_21 : decode cX11_callOff 21 = .ok (.getfield 29, 3) := by decide +kernel
theorem dX11_callOff_24 : decode cX11_callOff 24 = .ok (.invokevirtual 168, 3) := by decide +kernel
theorem dX11_callOff_27 : decode cX11_callOff 27 = .ok (.invokevirtual 90, 3) := by decide +kernel
theorem dX11_callOff_30 : decode cX11_callOff 30 = .ok (.ireturn, 1) := by decide +kernel
theorem dX11_set_0 : decode cX11_set 0 = .ok (.aload_n 0, 1) := by decide +kernel
theorem dX11_set_1 : decode cX11_set 1 = .ok (.getfield 22, 3) := by decide +kernel
theorem dX11_set_4 : decode cX11_set 4 = .ok (.aload_n 0, 1) := by decide +kernel
theorem dX11_set_5 : decode cX11_set 5 = .ok (.getfield 12, 3) := by decide +kernel
theorem dX11_set_8 : decode cX11_set 8 = .ok (.invokevirtual 76, 3) := by decide +kernel
theorem dX11_set_11 : decode cX11_set 11 = .ok (.aload_n 0, 1) := by decide +kernel
theorem dX11_set_12 : decode cX11_set 12 = .ok (.aload_n 0, 1) := by decide +kernel
theorem dX11_set_13 : decode cX11_set 13 = .ok (.getfield 12, 3) := by decide +kernel
theorem dX11_set_16 : decode cX11_set 16 = .ok (.getfield 80, 3) := by decide +kernel
theorem dX11_set_19 : decode cX11_set 19 = .ok (.iload_n 1, 1) := by decide +kernel
theorem dX11_set_20 : decode cX11_set 20 = .ok (.iload_n 2, 1) := by decide +kernel
theorem dX11_set_21 : decode cX11_set 21 = .ok (.aload_n 0, 1) := by decide +kernel
theorem dX11_set_22 : decode cX11_set 22 = .ok (.getfield 29, 3) := by decide +kernel
theorem dX11_set_25 : decode cX11_set 25 = .ok (.invokevirtual 173, 3) := by decide +kernel
theorem dX11_set_28 : decode cX11_set 28 = .ok (.invokevirtual 90, 3) := by decide +kernel
theorem dX11_set_31 : decode cX11_set 31 = .ok (.ireturn, 1) := by decide +kernel
theorem dX11_purge_0 : decode cX11_purge 0 = .ok (.aload_n 0, 1) := by decide +kernel
theorem dX11_purge_1 : decode cX11_purge 1 = .ok (.getfield 12, 3) := by decide +kernel
theorem dX11_purge_4 : decode cX11_purge 4 = .ok (.getfield 80, 3) := by decide +kernel
theorem dX11_purge_7 : decode cX11_purge 7 = .ok (.iload_n 1, 1) := by decide +kernel
theorem dX11_purge_8 : decode cX11_purge 8 = .ok (.invokevirtual 176, 3) := by decide +kernel
theorem dX11_purge_11 : decode cX11_purge 11 = .ok (.ifCond .eq 17, 3) := by decide +kernel
theorem dX11_purge_14 : decode cX11_purge 14 = .ok (.aload_n 0, 1) := by decide +kernel
theorem dX11_purge_15 : decode cX11_purge 15 = .ok (.getfield 12, 3) := by decide +kernel
theorem dX11_purge_18 : decode cX11_purge 18 = .ok (.getfield 80, 3) := by decide +kernel
theorem dX11_purge_21 : decode cX11_purge 21 = .ok (.iload_n 2, 1) := by decide +kernel
theorem dX11_purge_22 : decode cX11_purge 22 = .ok (.invokevirtual 176, 3) := by decide +kernel
theorem dX11_purge_25 : decode cX11_purge 25 = .ok (.ifCond .ne 13, 3) := by decide +kernel
theorem dX11_purge_28 : decode cX11_purge 28 = .ok (.new 180, 3) := by decide +kernel
theorem dX11_purge_31 : decode cX11_purge 31 = .ok (.dup, 1) := by decide +kernel
theorem dX11_purge_32 : decode cX11_purge 32 = .ok (.ldc 182, 2) := by decide +kernel
theorem dX11_purge_34 : decode cX11_purge 34 = .ok (.invokespecial 184, 3) := by decide +kernel
theorem dX11_purge_37 : decode cX11_purge 37 = .ok (.athrow, 1) := by decide +kernel
theorem dX11_purge_38 : decode cX11_purge 38 = .ok (.aload_n 0, 1) := by decide +kernel
theorem dX11_purge_39 : decode cX11_purge 39 = .ok (.getfield 12, 3) := by decide +kernel
theorem dX11_purge_42 : decode cX11_purge 42 = .ok (.getfield 80, 3) := by decide +kernel
theorem dX11_purge_45 : decode cX11_purge 45 = .ok (.iload_n 1, 1) := by decide +kernel
theorem dX11_purge_46 : decode cX11_purge 46 = .ok (.iload_n 2, 1) := by decide +kernel
theorem dX11_purge_47 : decode cX11_purge 47 = .ok (.invokevirtual 185, 3) := by decide +kernel
theorem dX11_purge_50 : decode cX11_purge 50 = .ok (.ireturn, 1) := by decide +kernel
theorem dX11_minutes_0 : decode cX11_minutes 0 = .ok (.aload_n 0, 1) := by decide +kernel
theorem dX11_minutes_1 : decode cX11_minutes 1 = .ok (.getfield 12, 3) := by decide +kernel
theorem dX11_minutes_4 : decode cX11_minutes 4 = .ok (.getfield 80, 3) := by decide +kernel
theorem dX11_minutes_7 : decode cX11_minutes 7 = .ok (.iload_n 1, 1) := by decide +kernel
theorem dX11_minutes_8 : decode cX11_minutes 8 = .ok (.invokevirtual 176, 3) := by decide +kernel
theorem dX11_minutes_11 : decode cX11_minutes 11 = .ok (.ifCond .ne 13, 3) := by decide +kernel
theorem dX11_minutes_14 : decode cX11_minutes 14 = .ok (.new 180, 3) := by decide +kernel
theorem dX11_minutes_17 : decode cX11_minutes 17 = .ok (.dup, 1) := by decide +kernel
theorem dX11_minutes_18 : decode cX11_minutes 18 = .ok (.ldc 182, 2) := by decide +kernel
theorem dX11_minutes_20 : decode cX11_minutes 20 = .ok (.invokespecial 184, 3) := by decide +kernel
theorem dX11_minutes_23 : decode cX11_minutes 23 = .ok (.athrow, 1) := by decide +kernel
theorem dX11_minutes_24 : decode cX11_minutes 24 = .ok (.iload_n 2, 1) := by decide +kernel
theorem dX11_minutes_25 : decode cX11_minutes 25 = .ok (.iconst 1, 1) := by decide +kernel
theorem dX11_minutes_26 : decode cX11_minutes 26 = .ok (.sipush 200, 3) := by decide +kernel
theorem dX11_minutes_29 : decode cX11_minutes 29 = .ok (.invokestatic 189, 3) := by decide +kernel
theorem dX11_minutes_32 : decode cX11_minutes 32 = .ok (.ifCond .ne 13, 3) := by decide +kernel
theorem dX11_minutes_35 : decode cX11_minutes 35 = .ok (.new 104, 3) := by decide +kernel
theorem dX11_minutes_38 : decode cX11_minutes 38 = .ok (.dup, 1) := by decide +kernel
theorem dX11_minutes_39 : decode cX11_minutes 39 = .ok (.ldc 193, 2) := by decide +kernel
theorem dX11_minutes_41 : decode cX11_minutes 41 = .ok (.invokespecial 108, 3) := by decide +kernel
theorem dX11_minutes_44 : decode cX11_minutes 44 = .ok (.athrow, 1) := by decide +kernel
theorem dX11_minutes_45 : decode cX11_minutes 45 = .ok (.aload_n 0, 1) := by decide +kernel
theorem dX11_minutes_46 : decode cX11_minutes 46 = .ok (.getfield 12, 3) := by decide +kernel
theorem dX11_minutes_49 : decode cX11_minutes 49 = .ok (.getfield 80, 3) := by decide +kernel
theorem dX11_minutes_52 : decode cX11_minutes 52 = .ok (.aload_n 0, 1) := by decide +kernel
theorem dX11_minutes_53 : decode cX11_minutes 53 = .ok (.getfield 12, 3) := by decide +kernel
theorem dX11_minutes_56 : decode cX11_minutes 56 = .ok (.getfield 195, 3) := by decide +kernel
theorem dX11_minutes_59 : decode cX11_minutes 59 = .ok (.invokevirtual 198, 3) := by decide +kernel
theorem dX11_minutes_62 : decode cX11_minutes 62 = .ok (.ifCond .ne 13, 3) := by decide +kernel
theorem dX11_minutes_65 : decode cX11_minutes 65 = .ok (.new 65, 3) := by decide +kernel
theorem dX11_minutes_68 : decode cX11_minutes 68 = .ok (.dup, 1) := by decide +kernel
theorem dX11_minutes_69 : decode cX11_minutes 69 = .ok (.ldc 201, 2) := by decide +kernel
theorem dX11_minutes_71 : decode cX11_minutes 71 = .ok (.invokespecial 69, 3) := by decide +kernel
theorem dX11_minutes_74 : decode cX11_minutes 74 = .ok (.athrow, 1) := by decide +kernel
theorem dX11_minutes_75 : decode cX11_minutes 75 = .ok (.aload_n 0, 1) := by decide +kernel
theorem dX11_minutes_76 : decode cX11_minutes 76 = .ok (.getfield 12, 3) := by decide +kernel
theorem dX11_minutes_79 : decode cX11_minutes 79 = .ok (.getfield 80, 3) := by decide +kernel
theorem dX11_minutes_82 : decode cX11_minutes 82 = .ok (.aload_n 0, 1) := by decide +kernel
theorem dX11_minutes_83 : decode cX11_minutes 83 = .ok (.getfield 12, 3) := by decide +kernel
theorem dX11_minutes_86 : decode cX11_minutes 86 = .ok (.getfield 203, 3) := by decide +kernel
theorem dX11_minutes_89 : decode cX11_minutes 89 = .ok (.iload_n 1, 1) := by decide +kernel
theorem dX11_minutes_90 : decode cX11_minutes 90 = .ok (.invokevirtual 185, 3) := by decide +kernel
theorem dX11_minutes_93 : decode cX11_minutes 93 = .ok (.iload_n 2, 1) := by decide +kernel
theorem dX11_minutes_94 : decode cX11_minutes 94 = .ok (.iadd, 1) := by decide +kernel
theorem dX11_minutes_95 : decode cX11_minutes 95 = .ok (.aload_n 0, 1) := by decide +kernel
theorem dX11_minutes_96 : decode cX11_minutes 96 = .ok (.getfield 12, 3) := by decide +kernel
theorem dX11_minutes_99 : decode cX11_minutes 99 = .ok (.getfield 80, 3) := by decide +kernel
theorem dX11_minutes_102 : decode cX11_minutes 102 = .ok (.getfield 206, 3) := by decide +kernel
theorem dX11_minutes_105 : decode cX11_minutes 105 = .ok (.aload_n 0, 1) := by decide +kernel
theorem dX11_minutes_106 : decode cX11_minutes 106 = .ok (.getfield 12, 3) := by decide +kernel
theorem dX11_minutes_109 : decode cX11_minutes 109 = .ok (.getfield 195, 3) := by decide +kernel
theorem dX11_minutes_112 : decode cX11_minutes 112 = .ok (.iaload, 1) := by decide +kernel
theorem dX11_minutes_113 : decode cX11_minutes 113 = .ok (.imul, 1) := by decide +kernel
theorem dX11_minutes_114 : decode cX11_minutes 114 = .ok (.ireturn, 1) := by decide +kernel
theorem dX11_best_0 : decode cX11_best 0 = .ok (.aload_n 0, 1) := by decide +kernel
theorem dX11_best_1 : decode cX11_best 1 = .ok (.iload_n 1, 1) := by decide +kernel
theorem dX11_best_2 : decode cX11_best 2 = .ok (.invokevirtual 210, 3) := by decide +kernel
theorem dX11_best_5 : decode cX11_best 5 = .ok (.aload_n 0, 1) := by decide +kernel
theorem dX11_best_6 : decode cX11_best 6 = .ok (.getfield 57, 3) := by decide +kernel
theorem dX11_best_9 : decode cX11_best 9 = .ok (.aload_n 0, 1) := by decide +kernel
theorem dX11_best_10 : decode cX11_best 10 = .ok (.getfield 12, 3) := by decide +kernel
theorem dX11_best_13 : decode cX11_best 13 = .ok (.iload_n 1, 1) := by decide +kernel
theorem dX11_best_14 : decode cX11_best 14 = .ok (.invokevirtual 214, 3) := by decide +kernel
theorem dX11_best_17 : decode cX11_best 17 = .ok (.ireturn, 1) := by decide +kernel
theorem dX11_bestAgain_0 : decode cX11_bestAgain 0 = .ok (.aload_n 0, 1) := by decide +kernel
theorem dX11_bestAgain_1 : decode cX11_bestAgain 1 = .ok (.iload_n 1, 1) := by decide +kernel
theorem dX11_bestAgain_2 : decode cX11_bestAgain 2 = .ok (.invokevirtual 210, 3) := by decide +kernel
theorem dX11_bestAgain_5 : decode cX11_bestAgain 5 = .ok (.aload_n 0, 1) := by decide +kernel
theorem dX11_bestAgain_6 : decode cX11_bestAgain 6 = .ok (.getfield 57, 3) := by decide +kernel
theorem dX11_bestAgain_9 : decode cX11_bestAgain 9 = .ok (.aload_n 0, 1) := by decide +kernel
theorem dX11_bestAgain_10 : decode cX11_bestAgain 10 = .ok (.getfield 12, 3) := by decide +kernel
theorem dX11_bestAgain_13 : decode cX11_bestAgain 13 = .ok (.iload_n 1, 1) := by decide +kernel
theorem dX11_bestAgain_14 : decode cX11_bestAgain 14 = .ok (.invokevirtual 218, 3) := by decide +kernel
theorem dX11_bestAgain_17 : decode cX11_bestAgain 17 = .ok (.ireturn, 1) := by decide +kernel
theorem dX11_bestColour_0 : decode cX11_bestColour 0 = .ok (.aload_n 0, 1) := by decide +kernel
theorem dX11_bestColour_1 : decode cX11_bestColour 1 = .ok (.iload_n 1, 1) := by decide +kernel
theorem dX11_bestColour_2 : decode cX11_bestColour 2 = .ok (.invokevirtual 210, 3) := by decide +kernel
theorem dX11_bestColour_5 : decode cX11_bestColour 5 = .ok (.iload_n 2, 1) := by decide +kernel
theorem dX11_bestColour_6 : decode cX11_bestColour 6 = .ok (.iconst 0, 1) := by decide +kernel
theorem dX11_bestColour_7 : decode cX11_bestColour 7 = .ok (.iload_n 1, 1) := by decide +kernel
theorem dX11_bestColour_8 : decode cX11_bestColour 8 = .ok (.invokestatic 221, 3) := by decide +kernel
theorem dX11_bestColour_11 : decode cX11_bestColour 11 = .ok (.iconst 1, 1) := by decide +kernel
theorem dX11_bestColour_12 : decode cX11_bestColour 12 = .ok (.isub, 1) := by decide +kernel
theorem dX11_bestColour_13 : decode cX11_bestColour 13 = .ok (.invokestatic 189, 3) := by decide +kernel
theorem dX11_bestColour_16 : decode cX11_bestColour 16 = .ok (.ifCond .ne 13, 3) := by decide +kernel
theorem dX11_bestColour_19 : decode cX11_bestColour 19 = .ok (.new 226, 3) := by decide +kernel
theorem dX11_bestColour_22 : decode cX11_bestColour 22 = .ok (.dup, 1) := by decide +kernel
theorem dX11_bestColour_23 : decode cX11_bestColour 23 = .ok (.ldc 228, 2) := by decide +kernel
theorem dX11_bestColour_25 : decode cX11_bestColour 25 = .ok (.invokespecial 230, 3) := by decide +kernel
theorem dX11_bestColour_28 : decode cX11_bestColour 28 = .ok (.athrow, 1) := by decide +kernel
theorem dX11_bestColour_29 : decode cX11_bestColour 29 = .ok (.aload_n 0, 1) := by decide +kernel
theorem dX11_bestColour_30 : decode cX11_bestColour 30 = .ok (.getfield 57, 3) := by decide +kernel
theorem dX11_bestColour_33 : decode cX11_bestColour 33 = .ok (.aload_n 0, 1) := by decide +kernel
theorem dX11_bestColour_34 : decode cX11_bestColour 34 = .ok (.getfield 12, 3) := by decide +kernel
theorem dX11_bestColour_37 : decode cX11_bestColour 37 = .ok (.iload_n 1, 1) := by decide +kernel
theorem dX11_bestColour_38 : decode cX11_bestColour 38 = .ok (.iload_n 2, 1) := by decide +kernel
theorem dX11_bestColour_39 : decode cX11_bestColour 39 = .ok (.invokevirtual 231, 3) := by decide +kernel
theorem dX11_bestColour_42 : decode cX11_bestColour 42 = .ok (.ireturn, 1) := by decide +kernel
theorem dX11_familyOf_0 : decode cX11_familyOf 0 = .ok (.aload_n 0, 1) := by decide +kernel
theorem dX11_familyOf_1 : decode cX11_familyOf 1 = .ok (.getfield 12, 3) := by decide +kernel
theorem dX11_familyOf_4 : decode cX11_familyOf 4 = .ok (.getfield 80, 3) := by decide +kernel
theorem dX11_familyOf_7 : decode cX11_familyOf 7 = .ok (.iload_n 1, 1) := by decide +kernel
theorem dX11_familyOf_8 : decode cX11_familyOf 8 = .ok (.invokevirtual 198, 3) := by decide +kernel
theorem dX11_familyOf_11 : decode cX11_familyOf 11 = .ok (.ifCond .ne 13, 3) := by decide +kernel
theorem dX11_familyOf_14 : decode cX11_familyOf 14 = .ok (.new 180, 3) := by decide +kernel
theorem dX11_familyOf_17 : decode cX11_familyOf 17 = .ok (.dup, 1) := by decide +kernel
theorem dX11_familyOf_18 : decode cX11_familyOf 18 = .ok (.ldc 235, 2) := by decide +kernel
theorem dX11_familyOf_20 : decode cX11_familyOf 20 = .ok (.invokespecial 184, 3) := by decide +kernel
theorem dX11_familyOf_23 : decode cX11_familyOf 23 = .ok (.athrow, 1) := by decide +kernel
theorem dX11_familyOf_24 : decode cX11_familyOf 24 = .ok (.iload_n 2, 1) := by decide +kernel
theorem dX11_familyOf_25 : decode cX11_familyOf 25 = .ok (.tableswitch 102 0 4 #[35, 48, 61, 73, 85], 35) := by decide +kernel
theorem dX11_familyOf_60 : decode cX11_familyOf 60 = .ok (.aload_n 0, 1) := by decide +kernel
theorem dX11_familyOf_61 : decode cX11_familyOf 61 = .ok (.getfield 12, 3) := by decide +kernel
theorem dX11_familyOf_64 : decode cX11_familyOf 64 = .ok (.getfield 80, 3) := by decide +kernel
theorem dX11_familyOf_67 : decode cX11_familyOf 67 = .ok (.getfield 206, 3) := by decide +kernel
theorem dX11_familyOf_70 : decode cX11_familyOf 70 = .ok (.iload_n 1, 1) := by decide +kernel
theorem dX11_familyOf_71 : decode cX11_familyOf 71 = .ok (.iaload, 1) := by decide +kernel
theorem dX11_familyOf_72 : decode cX11_familyOf 72 = .ok (.ireturn, 1) := by decide +kernel
theorem dX11_familyOf_73 : decode cX11_familyOf 73 = .ok (.aload_n 0, 1) := by decide +kernel
theorem dX11_familyOf_74 : decode cX11_familyOf 74 = .ok (.getfield 12, 3) := by decide +kernel
theorem dX11_familyOf_77 : decode cX11_familyOf 77 = .ok (.getfield 80, 3) := by decide +kernel
theorem dX11_familyOf_80 : decode cX11_familyOf 80 = .ok (.getfield 237, 3) := by decide +kernel
theorem dX11_familyOf_83 : decode cX11_familyOf 83 = .ok (.iload_n 1, 1) := by decide +kernel
theorem dX11_familyOf_84 : decode cX11_familyOf 84 = .ok (.iaload, 1) := by decide +kernel
theorem dX11_familyOf_85 : decode cX11_familyOf 85 = .ok (.ireturn, 1) := by decide +kernel
theorem dX11_familyOf_86 : decode cX11_familyOf 86 = .ok (.aload_n 0, 1) := by decide +kernel
theorem dX11_familyOf_87 : decode cX11_familyOf 87 = .ok (.getfield 12, 3) := by decide +kernel
theorem dX11_familyOf_90 : decode cX11_familyOf 90 = .ok (.getfield 80, 3) := by decide +kernel
theorem dX11_familyOf_93 : decode cX11_familyOf 93 = .ok (.iload_n 1, 1) := by decide +kernel
theorem dX11_familyOf_94 : decode cX11_familyOf 94 = .ok (.invokevirtual 240, 3) := by decide +kernel
theorem dX11_familyOf_97 : decode cX11_familyOf 97 = .ok (.ireturn, 1) := by decide +kernel
theorem dX11_familyOf_98 : decode cX11_familyOf 98 = .ok (.aload_n 0, 1) := by decide +kernel
theorem dX11_familyOf_99 : decode cX11_familyOf 99 = .ok (.getfield 12, 3) := by decide +kernel
theorem dX11_familyOf_102 : decode cX11_familyOf 102 = .ok (.getfield 80, 3) := by decide +kernel
theorem dX11_familyOf_105 : decode cX11_familyOf 105 = .ok (.iload_n 1, 1) := by decide +kernel
theorem dX11_familyOf_106 : decode cX11_familyOf 106 = .ok (.invokevirtual 243, 3) := by decide +kernel
theorem dX11_familyOf_109 : decode cX11_familyOf 109 = .ok (.ireturn, 1) := by decide +kernel
theorem dX11_familyOf_110 : decode cX11_familyOf 110 = .ok (.aload_n 0, 1) := by decide +kernel
theorem dX11_familyOf_111 : decode cX11_familyOf 111 = .ok (.getfield 12, 3) := by decide +kernel
theorem dX11_familyOf_114 : decode cX11_familyOf 114 = .ok (.getfield 195, 3) := by decide +kernel
theorem dX11_familyOf_117 : decode cX11_familyOf 117 = .ok (.iload_n 1, 1) := by decide +kernel
theorem dX11_familyOf_118 : decode cX11_familyOf 118 = .ok (.if_icmp .ne 7, 3) := by decide +kernel
theorem dX11_familyOf_121 : decode cX11_familyOf 121 = .ok (.iconst 1, 1) := by decide +kernel
theorem dX11_familyOf_122 : decode cX11_familyOf 122 = .ok (.goto 4, 3) := by decide +kernel
theorem dX11_familyOf_125 : decode cX11_familyOf 125 = .ok (.iconst 0, 1) := by decide +kernel
theorem dX11_familyOf_126 : decode cX11_familyOf 126 = .ok (.ireturn, 1) := by decide +kernel
theorem dX11_familyOf_127 : decode cX11_familyOf 127 = .ok (.new 104, 3) := by decide +kernel
theorem dX11_familyOf_130 : decode cX11_familyOf 130 = .ok (.dup, 1) := by decide +kernel
theorem dX11_familyOf_131 : decode cX11_familyOf 131 = .ok (.ldc 246, 2) := by decide +kernel
theorem dX11_familyOf_133 : decode cX11_familyOf 133 = .ok (.invokespecial 108, 3) := by decide +kernel
theorem dX11_familyOf_136 : decode cX11_familyOf 136 = .ok (.athrow, 1) := by decide +kernel
theorem dX11_pieces_0 : decode cX11_pieces 0 = .ok (.aload_n 0, 1) := by decide +kernel
theorem dX11_pieces_1 : decode cX11_pieces 1 = .ok (.getfield 12, 3) := by decide +kernel
theorem dX11_pieces_4 : decode cX11_pieces 4 = .ok (.getfield 80, 3) := by decide +kernel
theorem dX11_pieces_7 : decode cX11_pieces 7 = .ok (.iload_n 1, 1) := by decide +kernel
theorem dX11_pieces_8 : decode cX11_pieces 8 = .ok (.invokevirtual 198, 3) := by decide +kernel
theorem dX11_pieces_11 : decode cX11_pieces 11 = .ok (.ifCond .eq 17, 3) := by decide +kernel
theorem dX11_pieces_14 : decode cX11_pieces 14 = .ok (.aload_n 0, 1) := by decide +kernel
theorem dX11_pieces_15 : decode cX11_pieces 15 = .ok (.getfield 12, 3) := by decide +kernel
theorem dX11_pieces_18 : decode cX11_pieces 18 = .ok (.getfield 80, 3) := by decide +kernel
theorem dX11_pieces_21 : decode cX11_pieces 21 = .ok (.iload_n 2, 1) := by decide +kernel
theorem dX11_pieces_22 : decode cX11_pieces 22 = .ok (.invokevirtual 248, 3) := by decide +kernel
theorem dX11_pieces_25 : decode cX11_pieces 25 = .ok (.ifCond .ne 13, 3) := by decide +kernel
theorem dX11_pieces_28 : decode cX11_pieces 28 = .ok (.new 180, 3) := by decide +kernel
theorem dX11_pieces_31 : decode cX11_pieces 31 = .ok (.dup, 1) := by decide +kernel
theorem dX11_pieces_32 : decode cX11_pieces 32 = .ok (.ldc 251, 2) := by decide +kernel
theorem dX11_pieces_34 : decode cX11_pieces 34 = .ok (.invokespecial 184, 3) := by decide +kernel
theorem dX11_pieces_37 : decode cX11_pieces 37 = .ok (.athrow, 1) := by decide +kernel
theorem dX11_pieces_38 : decode cX11_pieces 38 = .ok (.aload_n 0, 1) := by decide +kernel
theorem dX11_pieces_39 : decode cX11_pieces 39 = .ok (.getfield 12, 3) := by decide +kernel
theorem dX11_pieces_42 : decode cX11_pieces 42 = .ok (.getfield 80, 3) := by decide +kernel
theorem dX11_pieces_45 : decode cX11_pieces 45 = .ok (.iload_n 1, 1) := by decide +kernel
theorem dX11_pieces_46 : decode cX11_pieces 46 = .ok (.iload_n 2, 1) := by decide +kernel
theorem dX11_pieces_47 : decode cX11_pieces 47 = .ok (.invokevirtual 253, 3) := by decide +kernel
theorem dX11_pieces_50 : decode cX11_pieces 50 = .ok (.ireturn, 1) := by decide +kernel
theorem dX11_families_0 : decode cX11_families 0 = .ok (.aload_n 0, 1) := by decide +kernel
theorem dX11_families_1 : decode cX11_families 1 = .ok (.getfield 12, 3) := by decide +kernel
theorem dX11_families_4 : decode cX11_families 4 = .ok (.getfield 80, 3) := by decide +kernel
theorem dX11_families_7 : decode cX11_families 7 = .ok (.iload_n 1, 1) := by decide +kernel
theorem dX11_families_8 : decode cX11_families 8 = .ok (.invokevirtual 248, 3) := by decide +kernel
theorem dX11_families_11 : decode cX11_families 11 = .ok (.ifCond .ne 14, 3) := by decide +kernel
theorem dX11_families_14 : decode cX11_families 14 = .ok (.new 180, 3) := by decide +kernel
theorem dX11_families_17 : decode cX11_families 17 = .ok (.dup, 1) := by decide +kernel
theorem dX11_families_18 : decode cX11_families 18 = .ok (.ldc_w 256, 3) := by decide +kernel
theorem dX11_families_21 : decode cX11_families 21 = .ok (.invokespecial 184, 3) := by decide +kernel
theorem dX11_families_24 : decode cX11_families 24 = .ok (.athrow, 1) := by decide +kernel
theorem dX11_families_25 : decode cX11_families 25 = .ok (.aload_n 0, 1) := by decide +kernel
theorem dX11_families_26 : decode cX11_families 26 = .ok (.getfield 12, 3) := by decide +kernel
theorem dX11_families_29 : decode cX11_families 29 = .ok (.getfield 80, 3) := by decide +kernel
theorem dX11_families_32 : decode cX11_families 32 = .ok (.iload_n 1, 1) := by decide +kernel
theorem dX11_families_33 : decode cX11_families 33 = .ok (.invokevirtual 258, 3) := by decide +kernel
theorem dX11_families_36 : decode cX11_families 36 = .ok (.ireturn, 1) := by decide +kernel
theorem dX11_dryer_0 : decode cX11_dryer 0 = .ok (.iload_n 1, 1) := by decide +kernel
theorem dX11_dryer_1 : decode cX11_dryer 1 = .ok (.iconst 0, 1) := by decide +kernel
theorem dX11_dryer_2 : decode cX11_dryer 2 = .ok (.iconst 2, 1) := by decide +kernel
theorem dX11_dryer_3 : decode cX11_dryer 3 = .ok (.invokestatic 189, 3) := by decide +kernel
theorem dX11_dryer_6 : decode cX11_dryer 6 = .ok (.ifCond .ne 14, 3) := by decide +kernel
theorem dX11_dryer_9 : decode cX11_dryer 9 = .ok (.new 180, 3) := by decide +kernel
theorem dX11_dryer_12 : decode cX11_dryer 12 = .ok (.dup, 1) := by decide +kernel
theorem dX11_dryer_13 : decode cX11_dryer 13 = .ok (.ldc_w 261, 3) := by decide +kernel
theorem dX11_dryer_16 : decode cX11_dryer 16 = .ok (.invokespecial 184, 3) := by decide +kernel
theorem dX11_dryer_19 : decode cX11_dryer 19 = .ok (.athrow, 1) := by decide +kernel
theorem dX11_dryer_20 : decode cX11_dryer 20 = .ok (.iload_n 2, 1) := by decide +kernel
theorem dX11_dryer_21 : decode cX11_dryer 21 = .ok (.tableswitch 94 0 3 #[31, 44, 57, 70], 31) := by decide +kernel
theorem dX11_dryer_52 : decode cX11_dryer 52 = .ok (.aload_n 0, 1) := by decide +kernel
theorem dX11_dryer_53 : decode cX11_dryer 53 = .ok (.getfield 12, 3) := by decide +kernel
theorem dX11_dryer_56 : decode cX11_dryer 56 = .ok (.getfield 144, 3) := by decide +kernel
theorem dX11_dryer_59 : decode cX11_dryer 59 = .ok (.getfield 263, 3) := by decide +kernel
theorem dX11_dryer_62 : decode cX11_dryer 62 = .ok (.iload_n 1, 1) := by decide +kernel
theorem dX11_dryer_63 : decode cX11_dryer 63 = .ok (.iaload, 1) := by decide +kernel
theorem dX11_dryer_64 : decode cX11_dryer 64 = .ok (.ireturn, 1) := by decide +kernel
theorem dX11_dryer_65 : decode cX11_dryer 65 = .ok (.aload_n 0, 1) := by decide +kernel
theorem dX11_dryer_66 : decode cX11_dryer 66 = .ok (.getfield 12, 3) := by decide +kernel
theorem dX11_dryer_69 : decode cX11_dryer 69 = .ok (.getfield 144, 3) := by decide +kernel
theorem dX11_dryer_72 : decode cX11_dryer 72 = .ok (.getfield 266, 3) := by decide +kernel
theorem dX11_dryer_75 : decode cX11_dryer 75 = .ok (.iload_n 1, 1) := by decide +kernel
theorem dX11_dryer_76 : decode cX11_dryer 76 = .ok (.iaload, 1) := by decide +kernel
theorem dX11_dryer_77 : decode cX11_dryer 77 = .ok (.ireturn, 1) := by decide +kernel
theorem dX11_dryer_78 : decode cX11_dryer 78 = .ok (.aload_n 0, 1) := by decide +kernel
theorem dX11_dryer_79 : decode cX11_dryer 79 = .ok (.getfield 12, 3) := by decide +kernel
theorem dX11_dryer_82 : decode cX11_dryer 82 = .ok (.getfield 144, 3) := by decide +kernel
theorem dX11_dryer_85 : decode cX11_dryer 85 = .ok (.getfield 269, 3) := by decide +kernel
theorem dX11_dryer_88 : decode cX11_dryer 88 = .ok (.iload_n 1, 1) := by decide +kernel
theorem dX11_dryer_89 : decode cX11_dryer 89 = .ok (.iaload, 1) := by decide +kernel
theorem dX11_dryer_90 : decode cX11_dryer 90 = .ok (.ireturn, 1) := by decide +kernel
theorem dX11_dryer_91 : decode cX11_dryer 91 = .ok (.aload_n 0, 1) := by decide +kernel
theorem dX11_dryer_92 : decode cX11_dryer 92 = .ok (.getfield 12, 3) := by decide +kernel
theorem dX11_dryer_95 : decode cX11_dryer 95 = .ok (.getfield 144, 3) := by decide +kernel
theorem dX11_dryer_98 : decode cX11_dryer 98 = .ok (.iload_n 1, 1) := by decide +kernel
theorem dX11_dryer_99 : decode cX11_dryer 99 = .ok (.aload_n 0, 1) := by decide +kernel
theorem dX11_dryer_100 : decode cX11_dryer 100 = .ok (.getfield 12, 3) := by decide +kernel
theorem dX11_dryer_103 : decode cX11_dryer 103 = .ok (.getfield 80, 3) := by decide +kernel
theorem dX11_dryer_106 : decode cX11_dryer 106 = .ok (.getfield 272, 3) := by decide +kernel
theorem dX11_dryer_109 : decode cX11_dryer 109 = .ok (.iconst 1, 1) := by decide +kernel
theorem dX11_dryer_110 : decode cX11_dryer 110 = .ok (.iaload, 1) := by decide +kernel
theorem dX11_dryer_111 : decode cX11_dryer 111 = .ok (.invokevirtual 275, 3) := by decide +kernel
theorem dX11_dryer_114 : decode cX11_dryer 114 = .ok (.ireturn, 1) := by decide +kernel
theorem dX11_dryer_115 : decode cX11_dryer 115 = .ok (.new 104, 3) := by decide +kernel
theorem dX11_dryer_118 : decode cX11_dryer 118 = .ok (.dup, 1) := by decide +kernel
theorem dX11_dryer_119 : decode cX11_dryer 119 = .ok (.ldc_w 278, 3) := by decide +kernel
theorem dX11_dryer_122 : decode cX11_dryer 122 = .ok (.invokespecial 108, 3) := by decide +kernel
theorem dX11_dryer_125 : decode cX11_dryer 125 = .ok (.athrow, 1) := by decide +kernel
theorem dX11_stock_0 : decode cX11_stock 0 = .ok (.aload_n 0, 1) := by decide +kernel
theorem dX11_stock_1 : decode cX11_stock 1 = .ok (.getfield 12, 3) := by decide +kernel
theorem dX11_stock_4 : decode cX11_stock 4 = .ok (.getfield 80, 3) := by decide +kernel
theorem dX11_stock_7 : decode cX11_stock 7 = .ok (.iload_n 1, 1) := by decide +kernel
theorem dX11_stock_8 : decode cX11_stock 8 = .ok (.invokevirtual 248, 3) := by decide +kernel
theorem dX11_stock_11 : decode cX11_stock 11 = .ok (.ifCond .eq 17, 3) := by decide +kernel
theorem dX11_stock_14 : decode cX11_stock 14 = .ok (.aload_n 0, 1) := by decide +kernel
theorem dX11_stock_15 : decode cX11_stock 15 = .ok (.getfield 12, 3) := by decide +kernel
theorem dX11_stock_18 : decode cX11_stock 18 = .ok (.getfield 80, 3) := by decide +kernel
theorem dX11_stock_21 : decode cX11_stock 21 = .ok (.iload_n 2, 1) := by decide +kernel
theorem dX11_stock_22 : decode cX11_stock 22 = .ok (.invokevirtual 176, 3) := by decide +kernel
theorem dX11_stock_25 : decode cX11_stock 25 = .ok (.ifCond .ne 14, 3) := by decide +kernel
theorem dX11_stock_28 : decode cX11_stock 28 = .ok (.new 180, 3) := by decide +kernel
theorem dX11_stock_31 : decode cX11_stock 31 = .ok (.dup, 1) := by decide +kernel
theorem dX11_stock_32 : decode cX11_stock 32 = .ok (.ldc_w 280, 3) := by decide +kernel
theorem dX11_stock_35 : decode cX11_stock 35 = .ok (.invokespecial 184, 3) := by decide +kernel
theorem dX11_stock_38 : decode cX11_stock 38 = .ok (.athrow, 1) := by decide +kernel
theorem dX11_stock_39 : decode cX11_stock 39 = .ok (.iload_n 1, 1) := by decide +kernel
theorem dX11_stock_40 : decode cX11_stock 40 = .ok (.bipush 6, 2) := by decide +kernel
theorem dX11_stock_42 : decode cX11_stock 42 = .ok (.imul, 1) := by decide +kernel
theorem dX11_stock_43 : decode cX11_stock 43 = .ok (.iload_n 2, 1) := by decide +kernel
theorem dX11_stock_44 : decode cX11_stock 44 = .ok (.iadd, 1) := by decide +kernel
theorem dX11_stock_45 : decode cX11_stock 45 = .ok (.istore 4, 2) := by decide +kernel
theorem dX11_stock_47 : decode cX11_stock 47 = .ok (.iload_n 3, 1) := by decide +kernel
theorem dX11_stock_48 : decode cX11_stock 48 = .ok (.tableswitch 70 0 2 #[28, 42, 56], 28) := by decide +kernel
theorem dX11_stock_76 : decode cX11_stock 76 = .ok (.aload_n 0, 1) := by decide +kernel
theorem dX11_stock_77 : decode cX11_stock 77 = .ok (.getfield 12, 3) := by decide +kernel
theorem dX11_stock_80 : decode cX11_stock 80 = .ok (.getfield 282, 3) := by decide +kernel
theorem dX11_stock_83 : decode cX11_stock 83 = .ok (.getfield 286, 3) := by decide +kernel
theorem dX11_stock_86 : decode cX11_stock 86 = .ok (.iload 4, 2) := by decide +kernel
theorem dX11_stock_88 : decode cX11_stock 88 = .ok (.iaload, 1) := by decide +kernel
theorem dX11_stock_89 : decode cX11_stock 89 = .ok (.ireturn, 1) := by decide +kernel
theorem dX11_stock_90 : decode cX11_stock 90 = .ok (.aload_n 0, 1) := by decide +kernel
theorem dX11_stock_91 : decode cX11_stock 91 = .ok (.getfield 12, 3) := by decide +kernel
theorem dX11_stock_94 : decode cX11_stock 94 = .ok (.getfield 282, 3) := by decide +kernel
theorem dX11_stock_97 : decode cX11_stock 97 = .ok (.getfield 291, 3) := by decide +kernel
theorem dX11_stock_100 : decode cX11_stock 100 = .ok (.iload 4, 2) := by decide +kernel
theorem dX11_stock_102 : decode cX11_stock 102 = .ok (.iaload, 1) := by decide +kernel
theorem dX11_stock_103 : decode cX11_stock 103 = .ok (.ireturn, 1) := by decide +kernel
theorem dX11_stock_104 : decode cX11_stock 104 = .ok (.aload_n 0, 1) := by decide +kernel
theorem dX11_stock_105 : decode cX11_stock 105 = .ok (.getfield 12, 3) := by decide +kernel
theorem dX11_stock_108 : decode cX11_stock 108 = .ok (.getfield 282, 3) := by decide +kernel
theorem dX11_stock_111 : decode cX11_stock 111 = .ok (.getfield 294, 3) := by decide +kernel
theorem dX11_stock_114 : decode cX11_stock 114 = .ok (.iload 4, 2) := by decide +kernel
theorem dX11_stock_116 : decode cX11_stock 116 = .ok (.iaload, 1) := by decide +kernel
theorem dX11_stock_117 : decode cX11_stock 117 = .ok (.ireturn, 1) := by decide +kernel
theorem dX11_stock_118 : decode cX11_stock 118 = .ok (.new 104, 3) := by decide +kernel
theorem dX11_stock_121 : decode cX11_stock 121 = .ok (.dup, 1) := by decide +kernel
theorem dX11_stock_122 : decode cX11_stock 122 = .ok (.ldc_w 297, 3) := by decide +kernel
theorem dX11_stock_125 : decode cX11_stock 125 = .ok (.invokespecial 108, 3) := by decide +kernel
theorem dX11_stock_128 : decode cX11_stock 128 = .ok (.athrow, 1) := by decide +kernel
theorem dX11_made_0 : decode cX11_made 0 = .ok (.aload_n 0, 1) := by decide +kernel
theorem dX11_made_1 : decode cX11_made 1 = .ok (.getfield 12, 3) := by decide +kernel
theorem dX11_made_4 : decode cX11_made 4 = .ok (.getfield 80, 3) := by decide +kernel
theorem dX11_made_7 : decode cX11_made 7 = .ok (.iload_n 1, 1) := by decide +kernel
theorem dX11_made_8 : decode cX11_made 8 = .ok (.invokevirtual 248, 3) := by decide +kernel
theorem dX11_made_11 : decode cX11_made 11 = .ok (.ifCond .ne 14, 3) := by decide +kernel
theorem dX11_made_14 : decode cX11_made 14 = .ok (.new 180, 3) := by decide +kernel
theorem dX11_made_17 : decode cX11_made 17 = .ok (.dup, 1) := by decide +kernel
theorem dX11_made_18 : decode cX11_made 18 = .ok (.ldc_w 256, 3) := by decide +kernel
theorem dX11_made_21 : decode cX11_made 21 = .ok (.invokespecial 184, 3) := by decide +kernel
theorem dX11_made_24 : decode cX11_made 24 = .ok (.athrow, 1) := by decide +kernel
theorem dX11_made_25 : decode cX11_made 25 = .ok (.iload_n 2, 1) := by decide +kernel
theorem dX11_made_26 : decode cX11_made 26 = .ok (.tableswitch 93 0 3 #[30, 43, 68, 80], 30) := by decide +kernel
theorem dX11_made_56 : decode cX11_made 56 = .ok (.aload_n 0, 1) := by decide +kernel
theorem dX11_made_57 : decode cX11_made 57 = .ok (.getfield 12, 3) := by decide +kernel
theorem dX11_made_60 : decode cX11_made 60 = .ok (.getfield 282, 3) := by decide +kernel
theorem dX11_made_63 : decode cX11_made 63 = .ok (.getfield 299, 3) := by decide +kernel
theorem dX11_made_66 : decode cX11_made 66 = .ok (.iload_n 1, 1) := by decide +kernel
theorem dX11_made_67 : decode cX11_made 67 = .ok (.iaload, 1) := by decide +kernel
theorem dX11_made_68 : decode cX11_made 68 = .ok (.ireturn, 1) := by decide +kernel
theorem dX11_made_69 : decode cX11_made 69 = .ok (.aload_n 0, 1) := by decide +kernel
theorem dX11_made_70 : decode cX11_made 70 = .ok (.getfield 12, 3) := by decide +kernel
theorem dX11_made_73 : decode cX11_made 73 = .ok (.getfield 282, 3) := by decide +kernel
theorem dX11_made_76 : decode cX11_made 76 = .ok (.iload_n 1, 1) := by decide +kernel
theorem dX11_made_77 : decode cX11_made 77 = .ok (.invokevirtual 302, 3) := by decide +kernel
theorem dX11_made_80 : decode cX11_made 80 = .ok (.aload_n 0, 1) := by decide +kernel
theorem dX11_made_81 : decode cX11_made 81 = .ok (.getfield 12, 3) := by decide +kernel
theorem dX11_made_84 : decode cX11_made 84 = .ok (.getfield 80, 3) := by decide +kernel
theorem dX11_made_87 : decode cX11_made 87 = .ok (.getfield 305, 3) := by decide +kernel
theorem dX11_made_90 : decode cX11_made 90 = .ok (.iload_n 1, 1) := by decide +kernel
theorem dX11_made_91 : decode cX11_made 91 = .ok (.iaload, 1) := by decide +kernel
theorem dX11_made_92 : decode cX11_made 92 = .ok (.imul, 1) := by decide +kernel
theorem dX11_made_93 : decode cX11_made 93 = .ok (.ireturn, 1) := by decide +kernel
theorem dX11_made_94 : decode cX11_made 94 = .ok (.aload_n 0, 1) := by decide +kernel
theorem dX11_made_95 : decode cX11_made 95 = .ok (.getfield 12, 3) := by decide +kernel
theorem dX11_made_98 : decode cX11_made 98 = .ok (.getfield 282, 3) := by decide +kernel
theorem dX11_made_101 : decode cX11_made 101 = .ok (.iload_n 1, 1) := by decide +kernel
theorem dX11_made_102 : decode cX11_made 102 = .ok (.invokevirtual 308, 3) := by decide +kernel
theorem dX11_made_105 : decode cX11_made 105 = .ok (.ireturn, 1) := by decide +kernel
theorem dX11_made_106 : decode cX11_made 106 = .ok (.aload_n 0, 1) := by decide +kernel
theorem dX11_made_107 : decode cX11_made 107 = .ok (.getfield 12, 3) := by decide +kernel
theorem dX11_made_110 : decode cX11_made 110 = .ok (.getfield 282, 3) := by decide +kernel
theorem dX11_made_113 : decode cX11_made 113 = .ok (.getfield 311, 3) := by decide +kernel
theorem dX11_made_116 : decode cX11_made 116 = .ok (.iload_n 1, 1) := by decide +kernel
theorem dX11_made_117 : decode cX11_made 117 = .ok (.iaload, 1) := by decide +kernel
theorem dX11_made_118 : decode cX11_made 118 = .ok (.ireturn, 1) := by decide +kernel
theorem dX11_made_119 : decode cX11_made 119 = .ok (.new 104, 3) := by decide +kernel
theorem dX11_made_122 : decode cX11_made 122 = .ok (.dup, 1) := by decide +kernel
theorem dX11_made_123 : decode cX11_made 123 = .ok (.ldc_w 314, 3) := by decide +kernel
theorem dX11_made_126 : decode cX11_made 126 = .ok (.invokespecial 108, 3) := by decide +kernel
theorem dX11_made_129 : decode cX11_made 129 = .ok (.athrow, 1) := by decide +kernel
theorem dX11_orderOf_0 : decode cX11_orderOf 0 = .ok (.aload_n 0, 1) := by decide +kernel
theorem dX11_orderOf_1 : decode cX11_orderOf 1 = .ok (.iload_n 1, 1) := by decide +kernel
theorem dX11_orderOf_2 : decode cX11_orderOf 2 = .ok (.invokevirtual 316, 3) := by decide +kernel
theorem dX11_orderOf_5 : decode cX11_orderOf 5 = .ok (.iload_n 2, 1) := by decide +kernel
theorem dX11_orderOf_6 : decode cX11_orderOf 6 = .ok (.tableswitch 116 0 5 #[38, 51, 64, 77, 90, 103], 38) := by decide +kernel
theorem dX11_orderOf_44 : decode cX11_orderOf 44 = .ok (.aload_n 0, 1) := by decide +kernel
theorem dX11_orderOf_45 : decode cX11_orderOf 45 = .ok (.getfield 12, 3) := by decide +kernel
theorem dX11_orderOf_48 : decode cX11_orderOf 48 = .ok (.getfield 164, 3) := by decide +kernel
theorem dX11_orderOf_51 : decode cX11_orderOf 51 = .ok (.getfield 319, 3) := by decide +kernel
theorem dX11_orderOf_54 : decode cX11_orderOf 54 = .ok (.iload_n 1, 1) := by decide +kernel
theorem dX11_orderOf_55 : decode cX11_orderOf 55 = .ok (.iaload, 1) := by decide +kernel
theorem dX11_orderOf_56 : decode cX11_orderOf 56 = .ok (.ireturn, 1) := by decide +kernel
theorem dX11_orderOf_57 : decode cX11_orderOf 57 = .ok (.aload_n 0, 1) := by decide +kernel
theorem dX11_orderOf_58 : decode cX11_orderOf 58 = .ok (.getfield 12, 3) := by decide +kernel
theorem dX11_orderOf_61 : decode cX11_orderOf 61 = .ok (.getfield 164, 3) := by decide +kernel
theorem dX11_orderOf_64 : decode cX11_orderOf 64 = .ok (.getfield 322, 3) := by decide +kernel
theorem dX11_orderOf_67 : decode cX11_orderOf 67 = .ok (.iload_n 1, 1) := by decide +kernel
theorem dX11_orderOf_68 : decode cX11_orderOf 68 = .ok (.iaload, 1) := by decide +kernel
theorem dX11_orderOf_69 : decode cX11_orderOf 69 = .ok (.ireturn, 1) := by decide +kernel
theorem dX11_orderOf_70 : decode cX11_orderOf 70 = .ok (.aload_n 0, 1) := by decide +kernel
theorem dX11_orderOf_71 : decode cX11_orderOf 71 = .ok (.getfield 12, 3) := by decide +kernel
theorem dX11_orderOf_74 : decode cX11_orderOf 74 = .ok (.getfield 164, 3) := by decide +kernel
theorem dX11_orderOf_77 : decode cX11_orderOf 77 = .ok (.getfield 323, 3) := by decide +kernel
theorem dX11_orderOf_80 : decode cX11_orderOf 80 = .ok (.iload_n 1, 1) := by decide +kernel
theorem dX11_orderOf_81 : decode cX11_orderOf 81 = .ok (.iaload, 1) := by decide +kernel
theorem dX11_orderOf_82 : decode cX11_orderOf 82 = .ok (.ireturn, 1) := by decide +kernel
theorem dX11_orderOf_83 : decode cX11_orderOf 83 = .ok (.aload_n 0, 1) := by decide +kernel
theorem dX11_orderOf_84 : decode cX11_orderOf 84 = .ok (.getfield 12, 3) := by decide +kernel
theorem dX11_orderOf_87 : decode cX11_orderOf 87 = .ok (.getfield 164, 3) := by decide +kernel
theorem dX11_orderOf_90 : decode cX11_orderOf 90 = .ok (.getfield 326, 3) := by decide +kernel
theorem dX11_orderOf_93 : decode cX11_orderOf 93 = .ok (.iload_n 1, 1) := by decide +kernel
theorem dX11_orderOf_94 : decode cX11_orderOf 94 = .ok (.iaload, 1) := by decide +kernel
theorem dX11_orderOf_95 : decode cX11_orderOf 95 = .ok (.ireturn, 1) := by decide +kernel
theorem dX11_orderOf_96 : decode cX11_orderOf 96 = .ok (.aload_n 0, 1) := by decide +kernel
theorem dX11_orderOf_97 : decode cX11_orderOf 97 = .ok (.getfield 12, 3) := by decide +kernel
theorem dX11_orderOf_100 : decode cX11_orderOf 100 = .ok (.getfield 164, 3) := by decide +kernel
theorem dX11_orderOf_103 : decode cX11_orderOf 103 = .ok (.getfield 329, 3) := by decide +kernel
theorem dX11_orderOf_106 : decode cX11_orderOf 106 = .ok (.iload_n 1, 1) := by decide +kernel
theorem dX11_orderOf_107 : decode cX11_orderOf 107 = .ok (.iaload, 1) := by decide +kernel
theorem dX11_orderOf_108 : decode cX11_orderOf 108 = .ok (.ireturn, 1) := by decide +kernel
theorem dX11_orderOf_109 : decode cX11_orderOf 109 = .ok (.aload_n 0, 1) := by decide +kernel
theorem dX11_orderOf_110 : decode cX11_orderOf 110 = .ok (.getfield 12, 3) := by decide +kernel
theorem dX11_orderOf_113 : decode cX11_orderOf 113 = .ok (.getfield 164, 3) := by decide +kernel
theorem dX11_orderOf_116 : decode cX11_orderOf 116 = .ok (.getfield 332, 3) := by decide +kernel
theorem dX11_orderOf_119 : decode cX11_orderOf 119 = .ok (.iload_n 1, 1) := by decide +kernel
theorem dX11_orderOf_120 : decode cX11_orderOf 120 = .ok (.iaload, 1) := by decide +kernel
theorem dX11_orderOf_121 : decode cX11_orderOf 121 = .ok (.ireturn, 1) := by decide +kernel
theorem dX11_orderOf_122 : decode cX11_orderOf 122 = .ok (.new 104, 3) := by decide +kernel
theorem dX11_orderOf_125 : decode cX11_orderOf 125 = .ok (.dup, 1) := by decide +kernel
theorem dX11_orderOf_126 : decode cX11_orderOf 126 = .ok (.ldc_w 335, 3) := by decide +kernel
theorem dX11_orderOf_129 : decode cX11_orderOf 129 = .ok (.invokespecial 108, 3) := by decide +kernel
theorem dX11_orderOf_132 : decode cX11_orderOf 132 = .ok (.athrow, 1) := by decide +kernel
theorem dX11_shots_0 : decode cX11_shots 0 = .ok (.aload_n 0, 1) := by decide +kernel
theorem dX11_shots_1 : decode cX11_shots 1 = .ok (.iload_n 1, 1) := by decide +kernel
theorem dX11_shots_2 : decode cX11_shots 2 = .ok (.invokevirtual 316, 3) := by decide +kernel
theorem dX11_shots_5 : decode cX11_shots 5 = .ok (.aload_n 0, 1) := by decide +kernel
theorem dX11_shots_6 : decode cX11_shots 6 = .ok (.getfield 12, 3) := by decide +kernel
theorem dX11_shots_9 : decode cX11_shots 9 = .ok (.iload_n 1, 1) := by decide +kernel
theorem dX11_shots_10 : decode cX11_shots 10 = .ok (.invokevirtual 337, 3) := by decide +kernel
theorem dX11_shots_13 : decode cX11_shots 13 = .ok (.istore_n 2, 1) := by decide +kernel
theorem dX11_shots_14 : decode cX11_shots 14 = .ok (.aload_n 0, 1) := by decide +kernel
theorem dX11_shots_15 : decode cX11_shots 15 = .ok (.getfield 12, 3) := by decide +kernel
theorem dX11_shots_18 : decode cX11_shots 18 = .ok (.getfield 164, 3) := by decide +kernel
theorem dX11_shots_21 : decode cX11_shots 21 = .ok (.iload_n 1, 1) := by decide +kernel
theorem dX11_shots_22 : decode cX11_shots 22 = .ok (.invokevirtual 340, 3) := by decide +kernel
theorem dX11_shots_25 : decode cX11_shots 25 = .ok (.ifCond .eq 7, 3) := by decide +kernel
theorem dX11_shots_28 : decode cX11_shots 28 = .ok (.iload_n 2, 1) := by decide +kernel
theorem dX11_shots_29 : decode cX11_shots 29 = .ok (.ifCond .gt 14, 3) := by decide +kernel
theorem dX11_shots_32 : decode cX11_shots 32 = .ok (.new 226, 3) := by decide +kernel
theorem dX11_shots_35 : decode cX11_shots 35 = .ok (.dup, 1) := by decide +kernel
theorem dX11_shots_36 : decode cX11_shots 36 = .ok (.ldc_w 343, 3) := by decide +kernel
theorem dX11_shots_39 : decode cX11_shots 39 = .ok (.invokespecial 230, 3) := by decide +kernel
theorem dX11_shots_42 : decode cX11_shots 42 = .ok (.athrow, 1) := by decide +kernel
theorem dX11_shots_43 : decode cX11_shots 43 = .ok (.aload_n 0, 1) := by decide +kernel
theorem dX11_shots_44 : decode cX11_shots 44 = .ok (.getfield 12, 3) := by decide +kernel
theorem dX11_shots_47 : decode cX11_shots 47 = .ok (.iload_n 1, 1) := by decide +kernel
theorem dX11_shots_48 : decode cX11_shots 48 = .ok (.invokevirtual 345, 3) := by decide +kernel
theorem dX11_shots_51 : decode cX11_shots 51 = .ok (.istore_n 3, 1) := by decide +kernel
theorem dX11_shots_52 : decode cX11_shots 52 = .ok (.iload_n 3, 1) := by decide +kernel
theorem dX11_shots_53 : decode cX11_shots 53 = .ok (.iload_n 2, 1) := by decide +kernel
theorem dX11_shots_54 : decode cX11_shots 54 = .ok (.iadd, 1) := by decide +kernel
theorem dX11_shots_55 : decode cX11_shots 55 = .ok (.iconst 1, 1) := by decide +kernel
theorem dX11_shots_56 : decode cX11_shots 56 = .ok (.isub, 1) := by decide +kernel
theorem dX11_shots_57 : decode cX11_shots 57 = .ok (.iload_n 2, 1) := by decide +kernel
theorem dX11_shots_58 : decode cX11_shots 58 = .ok (.idiv, 1) := by decide +kernel
theorem dX11_shots_59 : decode cX11_shots 59 = .ok (.ireturn, 1) := by decide +kernel
theorem dX11_letter_0 : decode cX11_letter 0 = .ok (.aload_n 0, 1) := by decide +kernel
theorem dX11_letter_1 : decode cX11_letter 1 = .ok (.iload_n 1, 1) := by decide +kernel
theorem dX11_letter_2 : decode cX11_letter 2 = .ok (.invokevirtual 316, 3) := by decide +kernel
theorem dX11_letter_5 : decode cX11_letter 5 = .ok (.aload_n 0, 1) := by decide +kernel
theorem dX11_letter_6 : decode cX11_letter 6 = .ok (.getfield 12, 3) := by decide +kernel
theorem dX11_letter_9 : decode cX11_letter 9 = .ok (.getfield 164, 3) := by decide +kernel
theorem dX11_letter_12 : decode cX11_letter 12 = .ok (.getfield 329, 3) := by decide +kernel
theorem dX11_letter_15 : decode cX11_letter 15 = .ok (.iload_n 1, 1) := by decide +kernel
theorem dX11_letter_16 : decode cX11_letter 16 = .ok (.iaload, 1) := by decide +kernel
theorem dX11_letter_17 : decode cX11_letter 17 = .ok (.lookupswitch 33 #[(1, 27), (2, 30)], 27) := by decide +kernel
theorem dX11_letter_44 : decode cX11_letter 44 = .ok (.bipush 100, 2) := by decide +kernel
theorem dX11_letter_46 : decode cX11_letter 46 = .ok (.ireturn, 1) := by decide +kernel
theorem dX11_letter_47 : decode cX11_letter 47 = .ok (.bipush 99, 2) := by decide +kernel
theorem dX11_letter_49 : decode cX11_letter 49 = .ok (.ireturn, 1) := by decide +kernel
theorem dX11_letter_50 : decode cX11_letter 50 = .ok (.aload_n 0, 1) := by decide +kernel
theorem dX11_letter_51 : decode cX11_letter 51 = .ok (.getfield 12, 3) := by decide +kernel
theorem dX11_letter_54 : decode cX11_letter 54 = .ok (.getfield 164, 3) := by decide +kernel
theorem dX11_letter_57 : decode cX11_letter 57 = .ok (.getfield 332, 3) := by decide +kernel
theorem dX11_letter_60 : decode cX11_letter 60 = .ok (.iload_n 1, 1) := by decide +kernel
theorem dX11_letter_61 : decode cX11_letter 61 = .ok (.iaload, 1) := by decide +kernel
theorem dX11_letter_62 : decode cX11_letter 62 = .ok (.ifCond .le 8, 3) := by decide +kernel
theorem dX11_letter_65 : decode cX11_letter 65 = .ok (.bipush 108, 2) := by decide +kernel
theorem dX11_letter_67 : decode cX11_letter 67 = .ok (.goto 5, 3) := by decide +kernel
theorem dX11_letter_70 : decode cX11_letter 70 = .ok (.bipush 111, 2) := by decide +kernel
theorem dX11_letter_72 : decode cX11_letter 72 = .ok (.ireturn, 1) := by decide +kernel
theorem dX11_due_0 : decode cX11_due 0 = .ok (.iload_n 1, 1) := by decide +kernel
theorem dX11_due_1 : decode cX11_due 1 = .ok (.ifCond .ge 14, 3) := by decide +kernel
theorem dX11_due_4 : decode cX11_due 4 = .ok (.new 104, 3) := by decide +kernel
theorem dX11_due_7 : decode cX11_due 7 = .ok (.dup, 1) := by decide +kernel
theorem dX11_due_8 : decode cX11_due 8 = .ok (.ldc_w 348, 3) := by decide +kernel
theorem dX11_due_11 : decode cX11_due 11 = .ok (.invokespecial 108, 3) := by decide +kernel
theorem dX11_due_14 : decode cX11_due 14 = .ok (.athrow, 1) := by decide +kernel
theorem dX11_due_15 : decode cX11_due 15 = .ok (.aload_n 0, 1) := by decide +kernel
theorem dX11_due_16 : decode cX11_due 16 = .ok (.getfield 12, 3) := by decide +kernel
theorem dX11_due_19 : decode cX11_due 19 = .ok (.getfield 164, 3) := by decide +kernel
theorem dX11_due_22 : decode cX11_due 22 = .ok (.iload_n 1, 1) := by decide +kernel
theorem dX11_due_23 : decode cX11_due 23 = .ok (.invokevirtual 350, 3) := by decide +kernel
theorem dX11_due_26 : decode cX11_due 26 = .ok (.ireturn, 1) := by decide +kernel
theorem dX11_reason_0 : decode cX11_reason 0 = .ok (.iload_n 1, 1) := by decide +kernel
theorem dX11_reason_1 : decode cX11_reason 1 = .ok (.ifCond .ge 14, 3) := by decide +kernel
theorem dX11_reason_4 : decode cX11_reason 4 = .ok (.new 104, 3) := by decide +kernel
theorem dX11_reason_7 : decode cX11_reason 7 = .ok (.dup, 1) := by decide +kernel
theorem dX11_reason_8 : decode cX11_reason 8 = .ok (.ldc_w 353, 3) := by decide +kernel
theorem dX11_reason_11 : decode cX11_reason 11 = .ok (.invokespecial 108, 3) := by decide +kernel
theorem dX11_reason_14 : decode cX11_reason 14 = .ok (.athrow, 1) := by decide +kernel
theorem dX11_reason_15 : decode cX11_reason 15 = .ok (.iload_n 1, 1) := by decide +kernel
theorem dX11_reason_16 : decode cX11_reason 16 = .ok (.iconst 0, 1) := by decide +kernel
theorem dX11_reason_17 : decode cX11_reason 17 = .ok (.aload_n 0, 1) := by decide +kernel
theorem dX11_reason_18 : decode cX11_reason 18 = .ok (.getfield 29, 3) := by decide +kernel
theorem dX11_reason_21 : decode cX11_reason 21 = .ok (.getfield 355, 3) := by decide +kernel
theorem dX11_reason_24 : decode cX11_reason 24 = .ok (.iconst 1, 1) := by decide +kernel
theorem dX11_reason_25 : decode cX11_reason 25 = .ok (.isub, 1) := by decide +kernel
theorem dX11_reason_26 : decode cX11_reason 26 = .ok (.invokestatic 189, 3) := by decide +kernel
theorem dX11_reason_29 : decode cX11_reason 29 = .ok (.ifCond .ne 14, 3) := by decide +kernel
theorem dX11_reason_32 : decode cX11_reason 32 = .ok (.new 226, 3) := by decide +kernel
theorem dX11_reason_35 : decode cX11_reason 35 = .ok (.dup, 1) := by decide +kernel
theorem dX11_reason_36 : decode cX11_reason 36 = .ok (.ldc_w 356, 3) := by decide +kernel
theorem dX11_reason_39 : decode cX11_reason 39 = .ok (.invokespecial 230, 3) := by decide +kernel
theorem dX11_reason_42 : decode cX11_reason 42 = .ok (.athrow, 1) := by decide +kernel
theorem dX11_reason_43 : decode cX11_reason 43 = .ok (.iload_n 2, 1) := by decide +kernel
theorem dX11_reason_44 : decode cX11_reason 44 = .ok (.ifCond .eq 15, 3) := by decide +kernel
theorem dX11_reason_47 : decode cX11_reason 47 = .ok (.aload_n 0, 1) := by decide +kernel
theorem dX11_reason_48 : decode cX11_reason 48 = .ok (.getfield 29, 3) := by decide +kernel
theorem dX11_reason_51 : decode cX11_reason 51 = .ok (.getfield 358, 3) := by decide +kernel
theorem dX11_reason_54 : decode cX11_reason 54 = .ok (.iload_n 1, 1) := by decide +kernel
theorem dX11_reason_55 : decode cX11_reason 55 = .ok (.iaload, 1) := by decide +kernel
theorem dX11_reason_56 : decode cX11_reason 56 = .ok (.goto 12, 3) := by decide +kernel
theorem dX11_reason_59 : decode cX11_reason 59 = .ok (.aload_n 0, 1) := by decide +kernel
theorem dX11_reason_60 : decode cX11_reason 60 = .ok (.getfield 29, 3) := by decide +kernel
theorem dX11_reason_63 : decode cX11_reason 63 = .ok (.getfield 361, 3) := by decide +kernel
theorem dX11_reason_66 : decode cX11_reason 66 = .ok (.iload_n 1, 1) := by decide +kernel
theorem dX11_reason_67 : decode cX11_reason 67 = .ok (.iaload, 1) := by decide +kernel
theorem dX11_reason_68 : decode cX11_reason 68 = .ok (.ireturn, 1) := by decide +kernel
theorem dX11_scrap_0 : decode cX11_scrap 0 = .ok (.aload_n 0, 1) := by decide +kernel
theorem dX11_scrap_1 : decode cX11_scrap 1 = .ok (.getfield 12, 3) := by decide +kernel
theorem dX11_scrap_4 : decode cX11_scrap 4 = .ok (.getfield 282, 3) := by decide +kernel
theorem dX11_scrap_7 : decode cX11_scrap 7 = .ok (.aload_n 0, 1) := by decide +kernel
theorem dX11_scrap_8 : decode cX11_scrap 8 = .ok (.getfield 12, 3) := by decide +kernel
theorem dX11_scrap_11 : decode cX11_scrap 11 = .ok (.getfield 282, 3) := by decide +kernel
theorem dX11_scrap_14 : decode cX11_scrap 14 = .ok (.getfield 299, 3) := by decide +kernel
theorem dX11_scrap_17 : decode cX11_scrap 17 = .ok (.invokevirtual 364, 3) := by decide +kernel
theorem dX11_scrap_20 : decode cX11_scrap 20 = .ok (.istore_n 1, 1) := by decide +kernel
theorem dX11_scrap_21 : decode cX11_scrap 21 = .ok (.iload_n 1, 1) := by decide +kernel
theorem dX11_scrap_22 : decode cX11_scrap 22 = .ok (.ifCond .gt 14, 3) := by decide +kernel
theorem dX11_scrap_25 : decode cX11_scrap 25 = .ok (.new 368, 3) := by decide +kernel
theorem dX11_scrap_28 : decode cX11_scrap 28 = .ok (.dup, 1) := by decide +kernel
theorem dX11_scrap_29 : decode cX11_scrap 29 = .ok (.ldc_w 370, 3) := by decide +kernel
theorem dX11_scrap_32 : decode cX11_scrap 32 = .ok (.invokespecial 372, 3) := by decide +kernel
theorem dX11_scrap_35 : decode cX11_scrap 35 = .ok (.athrow, 1) := by decide +kernel
theorem dX11_scrap_36 : decode cX11_scrap 36 = .ok (.aload_n 0, 1) := by decide +kernel
theorem dX11_scrap_37 : decode cX11_scrap 37 = .ok (.getfield 12, 3) := by decide +kernel
theorem dX11_scrap_40 : decode cX11_scrap 40 = .ok (.getfield 282, 3) := by decide +kernel
theorem dX11_scrap_43 : decode cX11_scrap 43 = .ok (.aload_n 0, 1) := by decide +kernel
theorem dX11_scrap_44 : decode cX11_scrap 44 = .ok (.getfield 12, 3) := by decide +kernel
theorem dX11_scrap_47 : decode cX11_scrap 47 = .ok (.getfield 282, 3) := by decide +kernel
theorem dX11_scrap_50 : decode cX11_scrap 50 = .ok (.getfield 311, 3) := by decide +kernel
theorem dX11_scrap_53 : decode cX11_scrap 53 = .ok (.invokevirtual 364, 3) := by decide +kernel
theorem dX11_scrap_56 : decode cX11_scrap 56 = .ok (.i2f, 1) := by decide +kernel
theorem dX11_scrap_57 : decode cX11_scrap 57 = .ok (.iload_n 1, 1) := by decide +kernel
theorem dX11_scrap_58 : decode cX11_scrap 58 = .ok (.i2f, 1) := by decide +kernel
theorem dX11_scrap_59 : decode cX11_scrap 59 = .ok (.fdiv, 1) := by decide +kernel
theorem dX11_scrap_60 : decode cX11_scrap 60 = .ok (.freturn, 1) := by decide +kernel
theorem dX11_lateness_0 : decode cX11_lateness 0 = .ok (.aload_n 0, 1) := by decide +kernel
theorem dX11_lateness_1 : decode cX11_lateness 1 = .ok (.getfield 12, 3) := by decide +kernel
theorem dX11_lateness_4 : decode cX11_lateness 4 = .ok (.getfield 164, 3) := by decide +kernel
theorem dX11_lateness_7 : decode cX11_lateness 7 = .ok (.iconst 1, 1) := by decide +kernel
theorem dX11_lateness_8 : decode cX11_lateness 8 = .ok (.invokevirtual 373, 3) := by decide +kernel
theorem dX11_lateness_11 : decode cX11_lateness 11 = .ok (.istore_n 1, 1) := by decide +kernel
theorem dX11_lateness_12 : decode cX11_lateness 12 = .ok (.iload_n 1, 1) := by decide +kernel
theorem dX11_lateness_13 : decode cX11_lateness 13 = .ok (.ifCond .gt 14, 3) := by decide +kernel
theorem dX11_lateness_16 : decode cX11_lateness 16 = .ok (.new 368, 3) := by decide +kernel
theorem dX11_lateness_19 : decode cX11_lateness 19 = .ok (.dup, 1) := by decide +kernel
theorem dX11_lateness_20 : decode cX11_lateness 20 = .ok (.ldc_w 376, 3) := by decide +kernel
theorem dX11_lateness_23 : decode cX11_lateness 23 = .ok (.invokespecial 372, 3) := by decide +kernel
theorem dX11_lateness_26 : decode cX11_lateness 26 = .ok (.athrow, 1) := by decide +kernel
theorem dX11_lateness_27 : decode cX11_lateness 27 = .ok (.aload_n 0, 1) := by decide +kernel
theorem dX11_lateness_28 : decode cX11_lateness 28 = .ok (.getfield 12, 3) := by decide +kernel
theorem dX11_lateness_31 : decode cX11_lateness 31 = .ok (.getfield 164, 3) := by decide +kernel
theorem dX11_lateness_34 : decode cX11_lateness 34 = .ok (.invokevirtual 378, 3) := by decide +kernel
theorem dX11_lateness_37 : decode cX11_lateness 37 = .ok (.i2d, 1) := by decide +kernel
theorem dX11_lateness_38 : decode cX11_lateness 38 = .ok (.iload_n 1, 1) := by decide +kernel
theorem dX11_lateness_39 : decode cX11_lateness 39 = .ok (.i2d, 1) := by decide +kernel
theorem dX11_lateness_40 : decode cX11_lateness 40 = .ok (.ddiv, 1) := by decide +kernel
theorem dX11_lateness_41 : decode cX11_lateness 41 = .ok (.dreturn, 1) := by decide +kernel
theorem dX11_account_0 : decode cX11_account 0 = .ok (.iload_n 1, 1) := by decide +kernel
theorem dX11_account_1 : decode cX11_account 1 = .ok (.tableswitch 282 0 18 #[91, 102, 113, 124, 135, 147, 155, 163, 171, 179, 190, 198, 206, 214, 222, 230, 243, 256, 269], 91) := by decide +kernel
theorem dX11_account_92 : decode cX11_account 92 = .ok (.aload_n 0, 1) := by decide +kernel
theorem dX11_account_93 : decode cX11_account 93 = .ok (.getfield 12, 3) := by decide +kernel
theorem dX11_account_96 : decode cX11_account 96 = .ok (.getfield 80, 3) := by decide +kernel
theorem dX11_account_99 : decode cX11_account 99 = .ok (.getfield 382, 3) := by decide +kernel
theorem dX11_account_102 : decode cX11_account 102 = .ok (.ireturn, 1) := by decide +kernel
theorem dX11_account_103 : decode cX11_account 103 = .ok (.aload_n 0, 1) := by decide +kernel
theorem dX11_account_104 : decode cX11_account 104 = .ok (.getfield 12, 3) := by decide +kernel
theorem dX11_account_107 : decode cX11_account 107 = .ok (.getfield 80, 3) := by decide +kernel
theorem dX11_account_110 : decode cX11_account 110 = .ok (.getfield 385, 3) := by decide +kernel
theorem dX11_account_113 : decode cX11_account 113 = .ok (.ireturn, 1) := by decide +kernel
theorem dX11_account_114 : decode cX11_account 114 = .ok (.aload_n 0, 1) := by decide +kernel
theorem dX11_account_115 : decode cX11_account 115 = .ok (.getfield 12, 3) := by decide +kernel
theorem dX11_account_118 : decode cX11_account 118 = .ok (.getfield 80, 3) := by decide +kernel
theorem dX11_account_121 : decode cX11_account 121 = .ok (.getfield 388, 3) := by decide +kernel
theorem dX11_account_124 : decode cX11_account 124 = .ok (.ireturn, 1) := by decide +kernel
theorem dX11_account_125 : decode cX11_account 125 = .ok (.aload_n 0, 1) := by decide +kernel
theorem dX11_account_126 : decode cX11_account 126 = .ok (.getfield 12, 3) := by decide +kernel
theorem dX11_account_129 : decode cX11_account 129 = .ok (.getfield 164, 3) := by decide +kernel
theorem dX11_account_132 : decode cX11_account 132 = .ok (.getfield 391, 3) := by decide +kernel
theorem dX11_account_135 : decode cX11_account 135 = .ok (.ireturn, 1) := by decide +kernel
theorem dX11_account_136 : decode cX11_account 136 = .ok (.aload_n 0, 1) := by decide +kernel
theorem dX11_account_137 : decode cX11_account 137 = .ok (.getfield 12, 3) := by decide +kernel
theorem dX11_account_140 : decode cX11_account 140 = .ok (.getfield 164, 3) := by decide +kernel
theorem dX11_account_143 : decode cX11_account 143 = .ok (.iconst 0, 1) := by decide +kernel
theorem dX11_account_144 : decode cX11_account 144 = .ok (.invokevirtual 373, 3) := by decide +kernel
theorem dX11_account_147 : decode cX11_account 147 = .ok (.ireturn, 1) := by decide +kernel
theorem dX11_account_148 : decode cX11_account 148 = .ok (.aload_n 0, 1) := by decide +kernel
theorem dX11_account_149 : decode cX11_account 149 = .ok (.getfield 12, 3) := by decide +kernel
theorem dX11_account_152 : decode cX11_account 152 = .ok (.getfield 392, 3) := by decide +kernel
theorem dX11_account_155 : decode cX11_account 155 = .ok (.ireturn, 1) := by decide +kernel
theorem dX11_account_156 : decode cX11_account 156 = .ok (.aload_n 0, 1) := by decide +kernel
theorem dX11_account_157 : decode cX11_account 157 = .ok (.getfield 12, 3) := by decide +kernel
theorem dX11_account_160 : decode cX11_account 160 = .ok (.getfield 395, 3) := by decide +kernel
theorem dX11_account_163 : decode cX11_account 163 = .ok (.ireturn, 1) := by decide +kernel
theorem dX11_account_164 : decode cX11_account 164 = .ok (.aload_n 0, 1) := by decide +kernel
theorem dX11_account_165 : decode cX11_account 165 = .ok (.getfield 12, 3) := by decide +kernel
theorem dX11_account_168 : decode cX11_account 168 = .ok (.getfield 203, 3) := by decide +kernel
theorem dX11_account_171 : decode cX11_account 171 = .ok (.ireturn, 1) := by decide +kernel
theorem dX11_account_172 : decode cX11_account 172 = .ok (.aload_n 0, 1) := by decide +kernel
theorem dX11_account_173 : decode cX11_account 173 = .ok (.getfield 12, 3) := by decide +kernel
theorem dX11_account_176 : decode cX11_account 176 = .ok (.getfield 195, 3) := by decide +kernel
theorem dX11_account_179 : decode cX11_account 179 = .ok (.ireturn, 1) := by decide +kernel
theorem dX11_account_180 : decode cX11_account 180 = .ok (.aload_n 0, 1) := by decide +kernel
theorem dX11_account_181 : decode cX11_account 181 = .ok (.getfield 12, 3) := by decide +kernel
theorem dX11_account_184 : decode cX11_account 184 = .ok (.getfield 144, 3) := by decide +kernel
theorem dX11_account_187 : decode cX11_account 187 = .ok (.invokevirtual 398, 3) := by decide +kernel
theorem dX11_account_190 : decode cX11_account 190 = .ok (.ireturn, 1) := by decide +kernel
theorem dX11_account_191 : decode cX11_account 191 = .ok (.aload_n 0, 1) := by decide +kernel
theorem dX11_account_192 : decode cX11_account 192 = .ok (.getfield 12, 3) := by decide +kernel
theorem dX11_account_195 : decode cX11_account 195 = .ok (.getfield 401, 3) := by decide +kernel
theorem dX11_account_198 : decode cX11_account 198 = .ok (.ireturn, 1) := by decide +kernel
theorem dX11_account_199 : decode cX11_account 199 = .ok (.aload_n 0, 1) := by decide +kernel
theorem dX11_account_200 : decode cX11_account 200 = .ok (.getfield 12, 3) := by decide +kernel
theorem dX11_account_203 : decode cX11_account 203 = .ok (.getfield 404, 3) := by decide +kernel
theorem dX11_account_206 : decode cX11_account 206 = .ok (.ireturn, 1) := by decide +kernel
theorem dX11_account_207 : decode cX11_account 207 = .ok (.aload_n 0, 1) := by decide +kernel
theorem dX11_account_208 : decode cX11_account 208 = .ok (.getfield 12, 3) := by decide +kernel
theorem dX11_account_211 : decode cX11_account 211 = .ok (.getfield 407, 3) := by decide +kernel
theorem dX11_account_214 : decode cX11_account 214 = .ok (.ireturn, 1) := by decide +kernel
theorem dX11_account_215 : decode cX11_account 215 = .ok (.aload_n 0, 1) := by decide +kernel
theorem dX11_account_216 : decode cX11_account 216 = .ok (.getfield 22, 3) := by decide +kernel
theorem dX11_account_219 : decode cX11_account 219 = .ok (.getfield 410, 3) := by decide +kernel
theorem dX11_account_222 : decode cX11_account 222 = .ok (.ireturn, 1) := by decide +kernel
theorem dX11_account_223 : decode cX11_account 223 = .ok (.aload_n 0, 1) := by decide +kernel
theorem dX11_account_224 : decode cX11_account 224 = .ok (.getfield 36, 3) := by decide +kernel
theorem dX11_account_227 : decode cX11_account 227 = .ok (.getfield 72, 3) := by decide +kernel
theorem dX11_account_230 : decode cX11_account 230 = .ok (.ireturn, 1) := by decide +kernel
theorem dX11_account_231 : decode cX11_account 231 = .ok (.aload_n 0, 1) := by decide +kernel
theorem dX11_account_232 : decode cX11_account 232 = .ok (.getfield 12, 3) := by decide +kernel
theorem dX11_account_235 : decode cX11_account 235 = .ok (.getfield 80, 3) := by decide +kernel
theorem dX11_account_238 : decode cX11_account 238 = .ok (.getfield 272, 3) := by decide +kernel
theorem dX11_account_241 : decode cX11_account 241 = .ok (.iconst 0, 1) := by decide +kernel
theorem dX11_account_242 : decode cX11_account 242 = .ok (.iaload, 1) := by decide +kernel
theorem dX11_account_243 : decode cX11_account 243 = .ok (.ireturn, 1) := by decide +kernel
theorem dX11_account_244 : decode cX11_account 244 = .ok (.aload_n 0, 1) := by decide +kernel
theorem dX11_account_245 : decode cX11_account 245 = .ok (.getfield 12, 3) := by decide +kernel
theorem dX11_account_248 : decode cX11_account 248 = .ok (.getfield 80, 3) := by decide +kernel
theorem dX11_account_251 : decode cX11_account 251 = .ok (.getfield 272, 3) := by decide +kernel
theorem dX11_account_254 : decode cX11_account 254 = .ok (.iconst 1, 1) := by decide +kernel
theorem dX11_account_255 : decode cX11_account 255 = .ok (.iaload, 1) := by decide +kernel
theorem dX11_account_256 : decode cX11_account 256 = .ok (.ireturn, 1) := by decide +kernel
theorem dX11_account_257 : decode cX11_account 257 = .ok (.aload_n 0, 1) := by decide +kernel
theorem dX11_account_258 : decode cX11_account 258 = .ok (.getfield 12, 3) := by decide +kernel
theorem dX11_account_261 : decode cX11_account 261 = .ok (.getfield 80, 3) := by decide +kernel
theorem dX11_account_264 : decode cX11_account 264 = .ok (.getfield 272, 3) := by decide +kernel
theorem dX11_account_267 : decode cX11_account 267 = .ok (.iconst 2, 1) := by decide +kernel
theorem dX11_account_268 : decode cX11_account 268 = .ok (.iaload, 1) := by decide +kernel
theorem dX11_account_269 : decode cX11_account 269 = .ok (.ireturn, 1) := by decide +kernel
theorem dX11_account_270 : decode cX11_account 270 = .ok (.aload_n 0, 1) := by decide +kernel
theorem dX11_account_271 : decode cX11_account 271 = .ok (.getfield 12, 3) := by decide +kernel
theorem dX11_account_274 : decode cX11_account 274 = .ok (.getfield 80, 3) := by decide +kernel
theorem dX11_account_277 : decode cX11_account 277 = .ok (.getfield 272, 3) := by decide +kernel
theorem dX11_account_280 : decode cX11_account 280 = .ok (.iconst 3, 1) := by decide +kernel
theorem dX11_account_281 : decode cX11_account 281 = .ok (.iaload, 1) := by decide +kernel
theorem dX11_account_282 : decode cX11_account 282 = .ok (.ireturn, 1) := by decide +kernel
theorem dX11_account_283 : decode cX11_account 283 = .ok (.new 104, 3) := by decide +kernel
theorem dX11_account_286 : decode cX11_account 286 = .ok (.dup, 1) := by decide +kernel
theorem dX11_account_287 : decode cX11_account 287 = .ok (.ldc_w 411, 3) := by decide +kernel
theorem dX11_account_290 : decode cX11_account 290 = .ok (.invokespecial 108, 3) := by decide +kernel
theorem dX11_account_293 : decode cX11_account 293 = .ok (.athrow, 1) := by decide +kernel
theorem dX11_undo_0 : decode cX11_undo 0 = .ok (.aload_n 0, 1) := by decide +kernel
theorem dX11_undo_1 : decode cX11_undo 1 = .ok (.getfield 22, 3) := by decide +kernel
theorem dX11_undo_4 : decode cX11_undo 4 = .ok (.getfield 410, 3) := by decide +kernel
theorem dX11_undo_7 : decode cX11_undo 7 = .ok (.ifCond .gt 14, 3) := by decide +kernel
theorem dX11_undo_10 : decode cX11_undo 10 = .ok (.new 65, 3) := by decide +kernel
theorem dX11_undo_13 : decode cX11_undo 13 = .ok (.dup, 1) := by decide +kernel
theorem dX11_undo_14 : decode cX11_undo 14 = .ok (.ldc_w 413, 3) := by decide +kernel
theorem dX11_undo_17 : decode cX11_undo 17 = .ok (.invokespecial 69, 3) := by decide +kernel
theorem dX11_undo_20 : decode cX11_undo 20 = .ok (.athrow, 1) := by decide +kernel
theorem dX11_undo_21 : decode cX11_undo 21 = .ok (.aload_n 0, 1) := by decide +kernel
theorem dX11_undo_22 : decode cX11_undo 22 = .ok (.getfield 22, 3) := by decide +kernel
theorem dX11_undo_25 : decode cX11_undo 25 = .ok (.aload_n 0, 1) := by decide +kernel
theorem dX11_undo_26 : decode cX11_undo 26 = .ok (.getfield 12, 3) := by decide +kernel
theorem dX11_undo_29 : decode cX11_undo 29 = .ok (.invokevirtual 415, 3) := by decide +kernel
theorem dX11_undo_32 : decode cX11_undo 32 = .ok (.aload_n 0, 1) := by decide +kernel
theorem dX11_undo_33 : decode cX11_undo 33 = .ok (.getfield 22, 3) := by decide +kernel
theorem dX11_undo_36 : decode cX11_undo 36 = .ok (.getfield 410, 3) := by decide +kernel
theorem dX11_undo_39 : decode cX11_undo 39 = .ok (.ireturn, 1) := by decide +kernel
theorem dX11_save_0 : decode cX11_save 0 = .ok (.aload_n 0, 1) := by decide +kernel
theorem dX11_save_1 : decode cX11_save 1 = .ok (.getfield 16, 3) := by decide +kernel
theorem dX11_save_4 : decode cX11_save 4 = .ok (.aload_n 0, 1) := by decide +kernel
theorem dX11_save_5 : decode cX11_save 5 = .ok (.getfield 12, 3) := by decide +kernel
theorem dX11_save_8 : decode cX11_save 8 = .ok (.invokevirtual 418, 3) := by decide +kernel
theorem dX11_save_11 : decode cX11_save 11 = .ok (.aload_n 0, 1) := by decide +kernel
theorem dX11_save_12 : decode cX11_save 12 = .ok (.iconst 1, 1) := by decide +kernel
theorem dX11_save_13 : decode cX11_save 13 = .ok (.putfield 421, 3) := by decide +kernel
theorem dX11_save_16 : decode cX11_save 16 = .ok (.aload_n 0, 1) := by decide +kernel
theorem dX11_save_17 : decode cX11_save 17 = .ok (.getfield 12, 3) := by decide +kernel
theorem dX11_save_20 : decode cX11_save 20 = .ok (.getfield 164, 3) := by decide +kernel
theorem dX11_save_23 : decode cX11_save 23 = .ok (.getfield 391, 3) := by decide +kernel
theorem dX11_save_26 : decode cX11_save 26 = .ok (.ireturn, 1) := by decide +kernel
theorem dX11_restore_0 : decode cX11_restore 0 = .ok (.aload_n 0, 1) := by decide +kernel
theorem dX11_restore_1 : decode cX11_restore 1 = .ok (.getfield 421, 3) := by decide +kernel
theorem dX11_restore_4 : decode cX11_restore 4 = .ok (.ifCond .ne 14, 3) := by decide +kernel
theorem dX11_restore_7 : decode cX11_restore 7 = .ok (.new 65, 3) := by decide +kernel
theorem dX11_restore_10 : decode cX11_restore 10 = .ok (.dup, 1) := by decide +kernel
theorem dX11_restore_11 : decode cX11_restore 11 = .ok (.ldc_w 425, 3) := by decide +kernel
theorem dX11_restore_14 : decode cX11_restore 14 = .ok (.invokespecial 69, 3) := by decide +kernel
theorem dX11_restore_17 : decode cX11_restore 17 = .ok (.athrow, 1) := by decide +kernel
theorem dX11_restore_18 : decode cX11_restore 18 = .ok (.aload_n 0, 1) := by decide +kernel
theorem dX11_restore_19 : decode cX11_restore 19 = .ok (.getfield 12, 3) := by decide +kernel
theorem dX11_restore_22 : decode cX11_restore 22 = .ok (.aload_n 0, 1) := by decide +kernel
theorem dX11_restore_23 : decode cX11_restore 23 = .ok (.getfield 16, 3) := by decide +kernel
theorem dX11_restore_26 : decode cX11_restore 26 = .ok (.invokevirtual 418, 3) := by decide +kernel
theorem dX11_restore_29 : decode cX11_restore 29 = .ok (.aload_n 0, 1) := by decide +kernel
theorem dX11_restore_30 : decode cX11_restore 30 = .ok (.getfield 22, 3) := by decide +kernel
theorem dX11_restore_33 : decode cX11_restore 33 = .ok (.invokevirtual 427, 3) := by decide +kernel
theorem dX11_restore_36 : decode cX11_restore 36 = .ok (.aload_n 0, 1) := by decide +kernel
theorem dX11_restore_37 : decode cX11_restore 37 = .ok (.getfield 12, 3) := by decide +kernel
theorem dX11_restore_40 : decode cX11_restore 40 = .ok (.getfield 164, 3) := by decide +kernel
theorem dX11_restore_43 : decode cX11_restore 43 = .ok (.getfield 391, 3) := by decide +kernel
theorem dX11_restore_46 : decode cX11_restore 46 = .ok (.ireturn, 1) := by decide +kernel
theorem dX11_settled_0 : decode cX11_settled 0 = .ok (.iload_n 1, 1) := by decide +kernel
theorem dX11_settled_1 : decode cX11_settled 1 = .ok (.iconst (-1), 1) := by decide +kernel
theorem dX11_settled_2 : decode cX11_settled 2 = .ok (.if_icmp .ne 14, 3) := by decide +kernel
theorem dX11_settled_5 : decode cX11_settled 5 = .ok (.new 129, 3) := by decide +kernel
theorem dX11_settled_8 : decode cX11_settled 8 = .ok (.dup, 1) := by decide +kernel
theorem dX11_settled_9 : decode cX11_settled 9 = .ok (.ldc_w 430, 3) := by decide +kernel
theorem dX11_settled_12 : decode cX11_settled 12 = .ok (.invokespecial 133, 3) := by decide +kernel
theorem dX11_settled_15 : decode cX11_settled 15 = .ok (.athrow, 1) := by decide +kernel
theorem dX11_settled_16 : decode cX11_settled 16 = .ok (.aload_n 0, 1) := by decide +kernel
theorem dX11_settled_17 : decode cX11_settled 17 = .ok (.getfield 22, 3) := by decide +kernel
theorem dX11_settled_20 : decode cX11_settled 20 = .ok (.invokevirtual 432, 3) := by decide +kernel
theorem dX11_settled_23 : decode cX11_settled 23 = .ok (.iload_n 1, 1) := by decide +kernel
theorem dX11_settled_24 : decode cX11_settled 24 = .ok (.ireturn, 1) := by decide +kernel
theorem dX11_commandCarriedOut_0 : decode cX11_commandCarriedOut 0 = .ok (.aload_n 0, 1) := by decide +kernel
theorem dX11_commandCarriedOut_1 : decode cX11_commandCarriedOut 1 = .ok (.getfield 50, 3) := by decide +kernel
theorem dX11_commandCarriedOut_4 : decode cX11_commandCarriedOut 4 = .ok (.iload_n 1, 1) := by decide +kernel
theorem dX11_commandCarriedOut_5 : decode cX11_commandCarriedOut 5 = .ok (.iconst 0, 1) := by decide +kernel
theorem dX11_commandCarriedOut_6 : decode cX11_commandCarriedOut 6 = .ok (.invokevirtual 435, 3) := by decide +kernel
theorem dX11_commandCarriedOut_9 : decode cX11_commandCarriedOut 9 = .ok (.istore_n 2, 1) := by decide +kernel
theorem dX11_commandCarriedOut_10 : decode cX11_commandCarriedOut 10 = .ok (.aload_n 0, 1) := by decide +kernel
theorem dX11_commandCarriedOut_11 : decode cX11_commandCarriedOut 11 = .ok (.getfield 50, 3) := by decide +kernel
theorem dX11_commandCarriedOut_14 : decode cX11_commandCarriedOut 14 = .ok (.iload_n 1, 1) := by decide +kernel
theorem dX11_commandCarriedOut_15 : decode cX11_commandCarriedOut 15 = .ok (.iconst 1, 1) := by decide +kernel
theorem dX11_commandCarriedOut_16 : decode cX11_commandCarriedOut 16 = .ok (.invokevirtual 435, 3) := by decide +kernel
theorem dX11_commandCarriedOut_19 : decode cX11_commandCarriedOut 19 = .ok (.istore_n 3, 1) := by decide +kernel
theorem dX11_commandCarriedOut_20 : decode cX11_commandCarriedOut 20 = .ok (.aload_n 0, 1) := by decide +kernel
theorem dX11_commandCarriedOut_21 : decode cX11_commandCarriedOut 21 = .ok (.getfield 50, 3) := by decide +kernel
theorem dX11_commandCarriedOut_24 : decode cX11_commandCarriedOut 24 = .ok (.iload_n 1, 1) := by decide +kernel
theorem dX11_commandCarriedOut_25 : decode cX11_commandCarriedOut 25 = .ok (.invokevirtual 438, 3) := by decide +kernel
theorem dX11_commandCarriedOut_28 : decode cX11_commandCarriedOut 28 = .ok (.tableswitch 68 0 2 #[28, 41, 55], 28) := by decide +kernel
theorem dX11_commandCarriedOut_56 : decode cX11_commandCarriedOut 56 = .ok (.aload_n 0, 1) := by decide +kernel
theorem dX11_commandCarriedOut_57 : decode cX11_commandCarriedOut 57 = .ok (.getfield 12, 3) := by decide +kernel
theorem dX11_commandCarriedOut_60 : decode cX11_commandCarriedOut 60 = .ok (.iload_n 2, 1) := by decide +kernel
theorem dX11_commandCarriedOut_61 : decode cX11_commandCarriedOut 61 = .ok (.aload_n 0, 1) := by decide +kernel
theorem dX11_commandCarriedOut_62 : decode cX11_commandCarriedOut 62 = .ok (.getfield 29, 3) := by decide +kernel
theorem dX11_commandCarriedOut_65 : decode cX11_commandCarriedOut 65 = .ok (.invokevirtual 137, 3) := by decide +kernel
theorem dX11_commandCarriedOut_68 : decode cX11_commandCarriedOut 68 = .ok (.ireturn, 1) := by decide +kernel
theorem dX11_commandCarriedOut_69 : decode cX11_commandCarriedOut 69 = .ok (.aload_n 0, 1) := by decide +kernel
theorem dX11_commandCarriedOut_70 : decode cX11_commandCarriedOut 70 = .ok (.getfield 12, 3) := by decide +kernel
theorem dX11_commandCarriedOut_73 : decode cX11_commandCarriedOut 73 = .ok (.iload_n 2, 1) := by decide +kernel
theorem dX11_commandCarriedOut_74 : decode cX11_commandCarriedOut 74 = .ok (.iload_n 3, 1) := by decide +kernel
theorem dX11_commandCarriedOut_75 : decode cX11_commandCarriedOut 75 = .ok (.aload_n 0, 1) := by decide +kernel
theorem dX11_commandCarriedOut_76 : decode cX11_commandCarriedOut 76 = .ok (.getfield 29, 3) := by decide +kernel
theorem dX11_commandCarriedOut_79 : decode cX11_commandCarriedOut 79 = .ok (.invokevirtual 156, 3) := by decide +kernel
theorem dX11_commandCarriedOut_82 : decode cX11_commandCarriedOut 82 = .ok (.ireturn, 1) := by decide +kernel
theorem dX11_commandCarriedOut_83 : decode cX11_commandCarriedOut 83 = .ok (.aload_n 0, 1) := by decide +kernel
theorem dX11_commandCarriedOut_84 : decode cX11_commandCarriedOut 84 = .ok (.getfield 12, 3) := by decide +kernel
theorem dX11_commandCarriedOut_87 : decode cX11_commandCarriedOut 87 = .ok (.iload_n 2, 1) := by decide +kernel
theorem dX11_commandCarriedOut_88 : decode cX11_commandCarriedOut 88 = .ok (.aload_n 0, 1) := by decide +kernel
theorem dX11_commandCarriedOut_89 : decode cX11_commandCarriedOut 89 = .ok (.getfield 29, 3) := by decide +kernel
theorem dX11_commandCarriedOut_92 : decode cX11_commandCarriedOut 92 = .ok (.invokevirtual 153, 3) := by decide +kernel
theorem dX11_commandCarriedOut_95 : decode cX11_commandCarriedOut 95 = .ok (.ireturn, 1) := by decide +kernel
theorem dX11_commandCarriedOut_96 : decode cX11_commandCarriedOut 96 = .ok (.aload_n 0, 1) := by decide +kernel
theorem dX11_commandCarriedOut_97 : decode cX11_commandCarriedOut 97 = .ok (.getfield 12, 3) := by decide +kernel
theorem dX11_commandCarriedOut_100 : decode cX11_commandCarriedOut 100 = .ok (.iload_n 2, 1) := by decide +kernel
theorem dX11_commandCarriedOut_101 : decode cX11_commandCarriedOut 101 = .ok (.iload_n 3, 1) := by decide +kernel
theorem dX11_commandCarriedOut_102 : decode cX11_commandCarriedOut 102 = .ok (.aload_n 0, 1) := by decide +kernel
theorem dX11_commandCarriedOut_103 : decode cX11_commandCarriedOut 103 = .ok (.getfield 50, 3) := by decide +kernel
theorem dX11_commandCarriedOut_106 : decode cX11_commandCarriedOut 106 = .ok (.iload_n 1, 1) := by decide +kernel
theorem dX11_commandCarriedOut_107 : decode cX11_commandCarriedOut 107 = .ok (.iconst 2, 1) := by decide +kernel
theorem dX11_commandCarriedOut_108 : decode cX11_commandCarriedOut 108 = .ok (.invokevirtual 435, 3) := by decide +kernel
theorem dX11_commandCarriedOut_111 : decode cX11_commandCarriedOut 111 = .ok (.aload_n 0, 1) := by decide +kernel
theorem dX11_commandCarriedOut_112 : decode cX11_commandCarriedOut 112 = .ok (.getfield 29, 3) := by decide +kernel
theorem dX11_commandCarriedOut_115 : decode cX11_commandCarriedOut 115 = .ok (.invokevirtual 140, 3) := by decide +kernel
theorem dX11_commandCarriedOut_118 : decode cX11_commandCarriedOut 118 = .ok (.ireturn, 1) := by decide +kernel
theorem dX11_checkColours_0 : decode cX11_checkColours 0 = .ok (.iload_n 1, 1) := by decide +kernel
theorem dX11_checkColours_1 : decode cX11_checkColours 1 = .ok (.ifCond .lt 18, 3) := by decide +kernel
theorem dX11_checkColours_4 : decode cX11_checkColours 4 = .ok (.iload_n 1, 1) := by decide +kernel
theorem dX11_checkColours_5 : decode cX11_checkColours 5 = .ok (.aload_n 0, 1) := by decide +kernel
theorem dX11_checkColours_6 : decode cX11_checkColours 6 = .ok (.getfield 12, 3) := by decide +kernel
theorem dX11_checkColours_9 : decode cX11_checkColours 9 = .ok (.getfield 80, 3) := by decide +kernel
theorem dX11_checkColours_12 : decode cX11_checkColours 12 = .ok (.getfield 382, 3) := by decide +kernel
theorem dX11_checkColours_15 : decode cX11_checkColours 15 = .ok (.ishr, 1) := by decide +kernel
theorem dX11_checkColours_16 : decode cX11_checkColours 16 = .ok (.ifCond .eq 14, 3) := by decide +kernel
theorem dX11_checkColours_19 : decode cX11_checkColours 19 = .ok (.new 104, 3) := by decide +kernel
theorem dX11_checkColours_22 : decode cX11_checkColours 22 = .ok (.dup, 1) := by decide +kernel
theorem dX11_checkColours_23 : decode cX11_checkColours 23 = .ok (.ldc_w 441, 3) := by decide +kernel
theorem dX11_checkColours_26 : decode cX11_checkColours 26 = .ok (.invokespecial 108, 3) := by decide +kernel
theorem dX11_checkColours_29 : decode cX11_checkColours 29 = .ok (.athrow, 1) := by decide +kernel
theorem dX11_checkColours_30 : decode cX11_checkColours 30 = .ok (.return_, 1) := by decide +kernel
theorem dX11_checkOrder_0 : decode cX11_checkOrder 0 = .ok (.aload_n 0, 1) := by decide +kernel
theorem dX11_checkOrder_1 : decode cX11_checkOrder 1 = .ok (.getfield 12, 3) := by decide +kernel
theorem dX11_checkOrder_4 : decode cX11_checkOrder 4 = .ok (.getfield 164, 3) := by decide +kernel
theorem dX11_checkOrder_7 : decode cX11_checkOrder 7 = .ok (.iload_n 1, 1) := by decide +kernel
theorem dX11_checkOrder_8 : decode cX11_checkOrder 8 = .ok (.invokevirtual 443, 3) := by decide +kernel
theorem dX11_checkOrder_11 : decode cX11_checkOrder 11 = .ok (.ifCond .ne 14, 3) := by decide +kernel
theorem dX11_checkOrder_14 : decode cX11_checkOrder 14 = .ok (.new 180, 3) := by decide +kernel
theorem dX11_checkOrder_17 : decode cX11_checkOrder 17 = .ok (.dup, 1) := by decide +kernel
theorem dX11_checkOrder_18 : decode cX11_checkOrder 18 = .ok (.ldc_w 446, 3) := by decide +kernel
theorem dX11_checkOrder_21 : decode cX11_checkOrder 21 = .ok (.invokespecial 184, 3) := by decide +kernel
theorem dX11_checkOrder_24 : decode cX11_checkOrder 24 = .ok (.athrow, 1) := by decide +kernel
theorem dX11_checkOrder_25 : decode cX11_checkOrder 25 = .ok (.return_, 1) := by decide +kernel
theorem dX11_isWithin_0 : decode cX11_isWithin 0 = .ok (.iload_n 0, 1) := by decide +kernel
theorem dX11_isWithin_1 : decode cX11_isWithin 1 = .ok (.iload_n 1, 1) := by decide +kernel
theorem dX11_isWithin_2 : decode cX11_isWithin 2 = .ok (.if_icmp .lt 12, 3) := by decide +kernel
theorem dX11_isWithin_5 : decode cX11_isWithin 5 = .ok (.iload_n 0, 1) := by decide +kernel
theorem dX11_isWithin_6 : decode cX11_isWithin 6 = .ok (.iload_n 2, 1) := by decide +kernel
theorem dX11_isWithin_7 : decode cX11_isWithin 7 = .ok (.if_icmp .gt 7, 3) := by decide +kernel
theorem dX11_isWithin_10 : decode cX11_isWithin 10 = .ok (.iconst 1, 1) := by decide +kernel
theorem dX11_isWithin_11 : decode cX11_isWithin 11 = .ok (.goto 4, 3) := by decide +kernel
theorem dX11_isWithin_14 : decode cX11_isWithin 14 = .ok (.iconst 0, 1) := by decide +kernel
theorem dX11_isWithin_15 : decode cX11_isWithin 15 = .ok (.ireturn, 1) := by decide +kernel
theorem dX11_copyRow_0 : decode cX11_copyRow 0 = .ok (.aload_n 0, 1) := by decide +kernel
theorem dX11_copyRow_1 : decode cX11_copyRow 1 = .ok (.iconst 0, 1) := by decide +kernel
theorem dX11_copyRow_2 : decode cX11_copyRow 2 = .ok (.aload_n 1, 1) := by decide +kernel
theorem dX11_copyRow_3 : decode cX11_copyRow 3 = .ok (.iconst 0, 1) := by decide +kernel
theorem dX11_copyRow_4 : decode cX11_copyRow 4 = .ok (.aload_n 0, 1) := by decide +kernel
theorem dX11_copyRow_5 : decode cX11_copyRow 5 = .ok (.arraylength, 1) := by decide +kernel
theorem dX11_copyRow_6 : decode cX11_copyRow 6 = .ok (.aload_n 1, 1) := by decide +kernel
theorem dX11_copyRow_7 : decode cX11_copyRow 7 = .ok (.arraylength, 1) := by decide +kernel
theorem dX11_copyRow_8 : decode cX11_copyRow 8 = .ok (.invokestatic 448, 3) := by decide +kernel
theorem dX11_copyRow_11 : decode cX11_copyRow 11 = .ok (.invokestatic 453, 3) := by decide +kernel
theorem dX11_copyRow_14 : decode cX11_copyRow 14 = .ok (.return_, 1) := by decide +kernel
theorem dJ6_bitCount_0f7a4_0 : decode cJ6_bitCount_0f7a4 0 = .ok (.iload_n 0, 1) := by decide +kernel
theorem dJ6_bitCount_0f7a4_1 : decode cJ6_bitCount_0f7a4 1 = .ok (.iload_n 0, 1) := by decide +kernel
theorem dJ6_bitCount_0f7a4_2 : decode cJ6_bitCount_0f7a4 2 = .ok (.iconst 1, 1) := by decide +kernel
theorem dJ6_bitCount_0f7a4_3 : decode cJ6_bitCount_0f7a4 3 = .ok (.iushr, 1) := by decide +kernel
theorem dJ6_bitCount_0f7a4_4 : decode cJ6_bitCount_0f7a4 4 = .ok (.ldc_w 265, 3) := by decide +kernel
theorem dJ6_bitCount_0f7a4_7 : decode cJ6_bitCount_0f7a4 7 = .ok (.iand, 1) := by decide +kernel
theorem dJ6_bitCount_0f7a4_8 : decode cJ6_bitCount_0f7a4 8 = .ok (.isub, 1) := by decide +kernel
theorem dJ6_bitCount_0f7a4_9 : decode cJ6_bitCount_0f7a4 9 = .ok (.istore_n 0, 1) := by decide +kernel
theorem dJ6_bitCount_0f7a4_10 : decode cJ6_bitCount_0f7a4 10 = .ok (.iload_n 0, 1) := by decide +kernel
theorem dJ6_bitCount_0f7a4_11 : decode cJ6_bitCount_0f7a4 11 = .ok (.ldc_w 266, 3) := by decide +kernel
theorem dJ6_bitCount_0f7a4_14 : decode cJ6_bitCount_0f7a4 14 = .ok (.iand, 1) := by decide +kernel
theorem dJ6_bitCount_0f7a4_15 : decode cJ6_bitCount_0f7a4 15 = .ok (.iload_n 0, 1) := by decide +kernel
theorem dJ6_bitCount_0f7a4_16 : decode cJ6_bitCount_0f7a4 16 = .ok (.iconst 2, 1) := by decide +kernel
theorem dJ6_bitCount_0f7a4_17 : decode cJ6_bitCount_0f7a4 17 = .ok (.iushr, 1) := by decide +kernel
theorem dJ6_bitCount_0f7a4_18 : decode cJ6_bitCount_0f7a4 18 = .ok (.ldc_w 266, 3) := by decide +kernel
theorem dJ6_bitCount_0f7a4_21 : decode cJ6_bitCount_0f7a4 21 = .ok (.iand, 1) := by decide +kernel
theorem dJ6_bitCount_0f7a4_22 : decode cJ6_bitCount_0f7a4 22 = .ok (.iadd, 1) := by decide +kernel
theorem dJ6_bitCount_0f7a4_23 : decode cJ6_bitCount_0f7a4 23 = .ok (.istore_n 0, 1) := by decide +kernel
theorem dJ6_bitCount_0f7a4_24 : decode cJ6_bitCount_0f7a4 24 = .ok (.iload_n 0, 1) := by decide +kernel
theorem dJ6_bitCount_0f7a4_25 : decode cJ6_bitCount_0f7a4 25 = .ok (.iload_n 0, 1) := by decide +kernel
theorem dJ6_bitCount_0f7a4_26 : decode cJ6_bitCount_0f7a4 26 = .ok (.iconst 4, 1) := by decide +kernel
theorem dJ6_bitCount_0f7a4_27 : decode cJ6_bitCount_0f7a4 27 = .ok (.iushr, 1) := by decide +kernel
theorem dJ6_bitCount_0f7a4_28 : decode cJ6_bitCount_0f7a4 28 = .ok (.iadd, 1) := by decide +kernel
theorem dJ6_bitCount_0f7a4_29 : decode cJ6_bitCount_0f7a4 29 = .ok (.ldc_w 267, 3) := by decide +kernel
theorem dJ6_bitCount_0f7a4_32 : decode cJ6_bitCount_0f7a4 32 = .ok (.iand, 1) := by decide +kernel
theorem dJ6_bitCount_0f7a4_33 : decode cJ6_bitCount_0f7a4 33 = .ok (.istore_n 0, 1) := by decide +kernel
theorem dJ6_bitCount_0f7a4_34 : decode cJ6_bitCount_0f7a4 34 = .ok (.iload_n 0, 1) := by decide +kernel
theorem dJ6_bitCount_0f7a4_35 : decode cJ6_bitCount_0f7a4 35 = .ok (.iload_n 0, 1) := by decide +kernel
theorem dJ6_bitCount_0f7a4_36 : decode cJ6_bitCount_0f7a4 36 = .ok (.bipush 8, 2) := by decide +kernel
theorem dJ6_bitCount_0f7a4_38 : decode cJ6_bitCount_0f7a4 38 = .ok (.iushr, 1) := by decide +kernel
theorem dJ6_bitCount_0f7a4_39 : decode cJ6_bitCount_0f7a4 39 = .ok (.iadd, 1) := by decide +kernel
theorem dJ6_bitCount_0f7a4_40 : decode cJ6_bitCount_0f7a4 40 = .ok (.istore_n 0, 1) := by decide +kernel
theorem dJ6_bitCount_0f7a4_41 : decode cJ6_bitCount_0f7a4 41 = .ok (.iload_n 0, 1) := by decide +kernel
theorem dJ6_bitCount_0f7a4_42 : decode cJ6_bitCount_0f7a4 42 = .ok (.iload_n 0, 1) := by decide +kernel
theorem dJ6_bitCount_0f7a4_43 : decode cJ6_bitCount_0f7a4 43 = .ok (.bipush 16, 2) := by decide +kernel
theorem dJ6_bitCount_0f7a4_45 : decode cJ6_bitCount_0f7a4 45 = .ok (.iushr, 1) := by decide +kernel
theorem dJ6_bitCount_0f7a4_46 : decode cJ6_bitCount_0f7a4 46 = .ok (.iadd, 1) := by decide +kernel
theorem dJ6_bitCount_0f7a4_47 : decode cJ6_bitCount_0f7a4 47 = .ok (.istore_n 0, 1) := by decide +kernel
theorem dJ6_bitCount_0f7a4_48 : decode cJ6_bitCount_0f7a4 48 = .ok (.iload_n 0, 1) := by decide +kernel
theorem dJ6_bitCount_0f7a4_49 : decode cJ6_bitCount_0f7a4 49 = .ok (.bipush 63, 2) := by decide +kernel
theorem dJ6_bitCount_0f7a4_51 : decode cJ6_bitCount_0f7a4 51 = .ok (.iand, 1) := by decide +kernel
theorem dJ6_bitCount_0f7a4_52 : decode cJ6_bitCount_0f7a4 52 = .ok (.ireturn, 1) := by decide +kernel
theorem dJ9_max_7cf53_0 : decode cJ9_max_7cf53 0 = .ok (.iload_n 0, 1) := by decide +kernel
theorem dJ9_max_7cf53_1 : decode cJ9_max_7cf53 1 = .ok (.iload_n 1, 1) := by decide +kernel
theorem dJ9_max_7cf53_2 : decode cJ9_max_7cf53 2 = .ok (.if_icmp .lt 7, 3) := by decide +kernel
theorem dJ9_max_7cf53_5 : decode cJ9_max_7cf53 5 = .ok (.iload_n 0, 1) := by decide +kernel
theorem dJ9_max_7cf53_6 : decode cJ9_max_7cf53 6 = .ok (.goto 4, 3) := by decide +kernel
theorem dJ9_max_7cf53_9 : decode cJ9_max_7cf53 9 = .ok (.iload_n 1, 1) := by decide +kernel
theorem dJ9_max_7cf53_10 : decode cJ9_max_7cf53 10 = .ok (.ireturn, 1) := by decide +kernel
theorem dJ9_min_7cf53_0 : decode cJ9_min_7cf53 0 = .ok (.iload_n 0, 1) := by decide +kernel
theorem dJ9_min_7cf53_1 : decode cJ9_min_7cf53 1 = .ok (.iload_n 1, 1) := by decide +kernel
theorem dJ9_min_7cf53_2 : decode cJ9_min_7cf53 2 = .ok (.if_icmp .gt 7, 3) := by decide +kernel
theorem dJ9_min_7cf53_5 : decode cJ9_min_7cf53 5 = .ok (.iload_n 0, 1) := by decide +kernel
theorem dJ9_min_7cf53_6 : decode cJ9_min_7cf53 6 = .ok (.goto 4, 3) := by decide +kernel
theorem dJ9_min_7cf53_9 : decode cJ9_min_7cf53 9 = .ok (.iload_n 1, 1) := by decide +kernel
theorem dJ9_min_7cf53_10 : decode cJ9_min_7cf53 10 = .ok (.ireturn, 1) := by decide +kernel
end
section
theorem dX12_init_0 : decode cX12_init 0 = .ok (.aload_n 0, 1) := by decide +kernel
theorem dX12_init_1 : decode cX12_init 1 = .ok (.invokespecial 3, 3) := by decide +kernel
theorem dX12_init_4 : decode cX12_init 4 = .ok (.aload_n 0, 1) := by decide +kernel
theorem dX12_init_5 : decode cX12_init 5 = .ok (.sipush 313, 3) := by decide +kernel
theorem dX12_init_8 : decode cX12_init 8 = .ok (.newarray .int, 2) := by decide +kernel
theorem dX12_init_10 : decode cX12_init 10 = .ok (.putfield 9, 3) := by decide +kernel
theorem dX12_init_13 : decode cX12_init 13 = .ok (.aload_n 0, 1) := by decide +kernel
theorem dX12_init_14 : decode cX12_init 14 = .ok (.sipush 313, 3) := by decide +kernel
theorem dX12_init_17 : decode cX12_init 17 = .ok (.newarray .int, 2) := by decide +kernel
theorem dX12_init_19 : decode cX12_init 19 = .ok (.putfield 13, 3) := by decide +kernel
theorem dX12_init_22 : decode cX12_init 22 = .ok (.aload_n 0, 1) := by decide +kernel
theorem dX12_init_23 : decode cX12_init 23 = .ok (.sipush 2504, 3) := by decide +kernel
theorem dX12_init_26 : decode cX12_init 26 = .ok (.newarray .int, 2) := by decide +kernel
theorem dX12_init_28 : decode cX12_init 28 = .ok (.putfield 16, 3) := by decide +kernel
theorem dX12_init_31 : decode cX12_init 31 = .ok (.aload_n 0, 1) := by decide +kernel
theorem dX12_init_32 : decode cX12_init 32 = .ok (.sipush 313, 3) := by decide +kernel
theorem dX12_init_35 : decode cX12_init 35 = .ok (.newarray .int, 2) := by decide +kernel
theorem dX12_init_37 : decode cX12_init 37 = .ok (.putfield 19, 3) := by decide +kernel
theorem dX12_init_40 : decode cX12_init 40 = .ok (.aload_n 0, 1) := by decide +kernel
theorem dX12_init_41 : decode cX12_init 41 = .ok (.bipush 80, 2) := by decide +kernel
theorem dX12_init_43 : decode cX12_init 43 = .ok (.newarray .char, 2) := by decide +kernel
theorem dX12_init_45 : decode cX12_init 45 = .ok (.putfield 22, 3) := by decide +kernel
theorem dX12_init_48 : decode cX12_init 48 = .ok (.aload_n 0, 1) := by decide +kernel
theorem dX12_init_49 : decode cX12_init 49 = .ok (.iconst (-1), 1) := by decide +kernel
theorem dX12_init_50 : decode cX12_init 50 = .ok (.putfield 26, 3) := by decide +kernel
theorem dX12_init_53 : decode cX12_init 53 = .ok (.aload_n 0, 1) := by decide +kernel
theorem dX12_init_54 : decode cX12_init 54 = .ok (.iconst 3, 1) := by decide +kernel
theorem dX12_init_55 : decode cX12_init 55 = .ok (.newarray .int, 2) := by decide +kernel
theorem dX12_init_57 : decode cX12_init 57 = .ok (.putfield 30, 3) := by decide +kernel
theorem dX12_init_60 : decode cX12_init 60 = .ok (.aload_n 0, 1) := by decide +kernel
theorem dX12_init_61 : decode cX12_init 61 = .ok (.iconst 3, 1) := by decide +kernel
theorem dX12_init_62 : decode cX12_init 62 = .ok (.newarray .int, 2) := by decide +kernel
theorem dX12_init_64 : decode cX12_init 64 = .ok (.putfield 33, 3) := by decide +kernel
theorem dX12_init_67 : decode cX12_init 67 = .ok (.aload_n 0, 1) := by decide +kernel
theorem dX12_init_68 : decode cX12_init 68 = .ok (.sipush 400, 3) := by decide +kernel
theorem dX12_init_71 : decode cX12_init 71 = .ok (.newarray .int, 2) := by decide +kernel
theorem dX12_init_73 : decode cX12_init 73 = .ok (.putfield 36, 3) := by decide +kernel
theorem dX12_init_76 : decode cX12_init 76 = .ok (.aload_n 0, 1) := by decide +kernel
theorem dX12_init_77 : decode cX12_init 77 = .ok (.bipush 6, 2) := by decide +kernel
theorem dX12_init_79 : decode cX12_init 79 = .ok (.newarray .int, 2) := by decide +kernel
theorem dX12_init_81 : decode cX12_init 81 = .ok (.putfield 39, 3) := by decide +kernel
theorem dX12_init_84 : decode cX12_init 84 = .ok (.aload_n 0, 1) := by decide +kernel
theorem dX12_init_85 : decode cX12_init 85 = .ok (.bipush 6, 2) := by decide +kernel
theorem dX12_init_87 : decode cX12_init 87 = .ok (.newarray .int, 2) := by decide +kernel
theorem dX12_init_89 : decode cX12_init 89 = .ok (.putfield 42, 3) := by decide +kernel
theorem dX12_init_92 : decode cX12_init 92 = .ok (.aload_n 0, 1) := by decide +kernel
theorem dX12_init_93 : decode cX12_init 93 = .ok (.getfield 9, 3) := by decide +kernel
theorem dX12_init_96 : decode cX12_init 96 = .ok (.iconst 4, 1) := by decide +kernel
theorem dX12_init_97 : decode cX12_init 97 = .ok (.iconst (-1), 1) := by decide +kernel
theorem dX12_init_98 : decode cX12_init 98 = .ok (.iastore, 1) := by decide +kernel
theorem dX12_init_99 : decode cX12_init 99 = .ok (.aload_n 0, 1) := by decide +kernel
theorem dX12_init_100 : decode cX12_init 100 = .ok (.getfield 9, 3) := by decide +kernel
theorem dX12_init_103 : decode cX12_init 103 = .ok (.iconst 5, 1) := by decide +kernel
theorem dX12_init_104 : decode cX12_init 104 = .ok (.iconst (-1), 1) := by decide +kernel
theorem dX12_init_105 : decode cX12_init 105 = .ok (.iastore, 1) := by decide +kernel
theorem dX12_init_106 : decode cX12_init 106 = .ok (.aload_n 0, 1) := by decide +kernel
theorem dX12_init_107 : decode cX12_init 107 = .ok (.getfield 9, 3) := by decide +kernel
theorem dX12_init_110 : decode cX12_init 110 = .ok (.bipush 12, 2) := by decide +kernel
theorem dX12_init_112 : decode cX12_init 112 = .ok (.sipush 480, 3) := by decide +kernel
theorem dX12_init_115 : decode cX12_init 115 = .ok (.iastore, 1) := by decide +kernel
theorem dX12_init_116 : decode cX12_init 116 = .ok (.aload_n 0, 1) := by decide +kernel
theorem dX12_init_117 : decode cX12_init 117 = .ok (.getfield 9, 3) := by decide +kernel
theorem dX12_init_120 : decode cX12_init 120 = .ok (.bipush 13, 2) := by decide +kernel
theorem dX12_init_122 : decode cX12_init 122 = .ok (.bipush 60, 2) := by decide +kernel
theorem dX12_init_124 : decode cX12_init 124 = .ok (.iastore, 1) := by decide +kernel
theorem dX12_init_125 : decode cX12_init 125 = .ok (.aload_n 0, 1) := by decide +kernel
theorem dX12_init_126 : decode cX12_init 126 = .ok (.getfield 9, 3) := by decide +kernel
theorem dX12_init_129 : decode cX12_init 129 = .ok (.bipush 14, 2) := by decide +kernel
theorem dX12_init_131 : decode cX12_init 131 = .ok (.iconst 2, 1) := by decide +kernel
theorem dX12_init_132 : decode cX12_init 132 = .ok (.iastore, 1) := by decide +kernel
theorem dX12_init_133 : decode cX12_init 133 = .ok (.aload_n 0, 1) := by decide +kernel
theorem dX12_init_134 : decode cX12_init 134 = .ok (.getfield 9, 3) := by decide +kernel
theorem dX12_init_137 : decode cX12_init 137 = .ok (.bipush 15, 2) := by decide +kernel
theorem dX12_init_139 : decode cX12_init 139 = .ok (.bipush 10, 2) := by decide +kernel
theorem dX12_init_141 : decode cX12_init 141 = .ok (.iastore, 1) := by decide +kernel
theorem dX12_init_142 : decode cX12_init 142 = .ok (.iconst 0, 1) := by decide +kernel
theorem dX12_init_143 : decode cX12_init 143 = .ok (.istore_n 1, 1) := by decide +kernel
theorem dX12_init_144 : decode cX12_init 144 = .ok (.iload_n 1, 1) := by decide +kernel
theorem dX12_init_145 : decode cX12_init 145 = .ok (.iconst 3, 1) := by decide +kernel
theorem dX12_init_146 : decode cX12_init 146 = .ok (.if_icmp .ge 21, 3) := by decide +kernel
theorem dX12_init_149 : decode cX12_init 149 = .ok (.aload_n 0, 1) := by decide +kernel
theorem dX12_init_150 : decode cX12_init 150 = .ok (.getfield 9, 3) := by decide +kernel
theorem dX12_init_153 : decode cX12_init 153 = .ok (.bipush 100, 2) := by decide +kernel
theorem dX12_init_155 : decode cX12_init 155 = .ok (.iconst 3, 1) := by decide +kernel
theorem dX12_init_156 : decode cX12_init 156 = .ok (.iload_n 1, 1) := by decide +kernel
theorem dX12_init_157 : decode cX12_init 157 = .ok (.imul, 1) := by decide +kernel
theorem dX12_init_158 : decode cX12_init 158 = .ok (.iadd, 1) := by decide +kernel
theorem dX12_init_159 : decode cX12_init 159 = .ok (.iconst (-1), 1) := by decide +kernel
theorem dX12_init_160 : decode cX12_init 160 = .ok (.iastore, 1) := by decide +kernel
theorem dX12_init_161 : decode cX12_init 161 = .ok (.iinc 1 1, 3) := by decide +kernel
theorem dX12_init_164 : decode cX12_init 164 = .ok (.goto (-20), 3) := by decide +kernel
theorem dX12_init_167 : decode cX12_init 167 = .ok (.return_, 1) := by decide +kernel
theorem dX12_thrown_0 : decode cX12_thrown 0 = .ok (.aload_n 0, 1) := by decide +kernel
theorem dX12_thrown_1 : decode cX12_thrown 1 = .ok (.getfield 45, 3) := by decide +kernel
theorem dX12_thrown_4 : decode cX12_thrown 4 = .ok (.ireturn, 1) := by decide +kernel
theorem dX12_raises_0 : decode cX12_raises 0 = .ok (.aload_n 0, 1) := by decide +kernel
theorem dX12_raises_1 : decode cX12_raises 1 = .ok (.iload_n 1, 1) := by decide +kernel
theorem dX12_raises_2 : decode cX12_raises 2 = .ok (.putfield 45, 3) := by decide +kernel
theorem dX12_raises_5 : decode cX12_raises 5 = .ok (.iconst 0, 1) := by decide +kernel
theorem dX12_raises_6 : decode cX12_raises 6 = .ok (.ireturn, 1) := by decide +kernel
theorem dX12_in_0 : decode cX12_in 0 = .ok (.iload_n 0, 1) := by decide +kernel
theorem dX12_in_1 : decode cX12_in 1 = .ok (.iload_n 1, 1) := by decide +kernel
theorem dX12_in_2 : decode cX12_in 2 = .ok (.if_icmp .lt 12, 3) := by decide +kernel
theorem dX12_in_5 : decode cX12_in 5 = .ok (.iload_n 0, 1) := by decide +kernel
theorem dX12_in_6 : decode cX12_in 6 = .ok (.iload_n 2, 1) := by decide +kernel
theorem dX12_in_7 : decode cX12_in 7 = .ok (.if_icmp .gt 7, 3) := by decide +kernel
theorem dX12_in_10 : decode cX12_in 10 = .ok (.iconst 1, 1) := by decide +kernel
theorem dX12_in_11 : decode cX12_in 11 = .ok (.goto 4, 3) := by decide +kernel
theorem dX12_in_14 : decode cX12_in 14 = .ok (.iconst 0, 1) := by decide +kernel
theorem dX12_in_15 : decode cX12_in 15 = .ok (.ireturn, 1) := by decide +kernel
theorem dX12_tries_0 : decode cX12_tries 0 = .ok (.aload_n 0, 1) := by decide +kernel
theorem dX12_tries_1 : decode cX12_tries 1 = .ok (.iconst 0, 1) := by decide +kernel
theorem dX12_tries_2 : decode cX12_tries 2 = .ok (.putfield 45, 3) := by decide +kernel
theorem dX12_tries_5 : decode cX12_tries 5 = .ok (.iconst 0, 1) := by decide +kernel
theorem dX12_tries_6 : decode cX12_tries 6 = .ok (.istore_n 1, 1) := by decide +kernel
theorem dX12_tries_7 : decode cX12_tries 7 = .ok (.iload_n 1, 1) := by decide +kernel
theorem dX12_tries_8 : decode cX12_tries 8 = .ok (.sipush 313, 3) := by decide +kernel
theorem dX12_tries_11 : decode cX12_tries 11 = .ok (.if_icmp .ge 21, 3) := by decide +kernel
theorem dX12_tries_14 : decode cX12_tries 14 = .ok (.aload_n 0, 1) := by decide +kernel
theorem dX12_tries_15 : decode cX12_tries 15 = .ok (.getfield 13, 3) := by decide +kernel
theorem dX12_tries_18 : decode cX12_tries 18 = .ok (.iload_n 1, 1) := by decide +kernel
theorem dX12_tries_19 : decode cX12_tries 19 = .ok (.aload_n 0, 1) := by decide +kernel
theorem dX12_tries_20 : decode cX12_tries 20 = .ok (.getfield 9, 3) := by decide +kernel
theorem dX12_tries_23 : decode cX12_tries 23 = .ok (.iload_n 1, 1) := by decide +kernel
theorem dX12_tries_24 : decode cX12_tries 24 = .ok (.iaload, 1) := by decide +kernel
theorem dX12_tries_25 : decode cX12_tries 25 = .ok (.iastore, 1) := by decide +kernel
theorem dX12_tries_26 : decode cX12_tries 26 = .ok (.iinc 1 1, 3) := by decide +kernel
theorem dX12_tries_29 : decode cX12_tries 29 = .ok (.goto (-22), 3) := by decide +kernel
theorem dX12_tries_32 : decode cX12_tries 32 = .ok (.return_, 1) := by decide +kernel
theorem dX12_comesBack_0 : decode cX12_comesBack 0 = .ok (.iconst 0, 1) := by decide +kernel
theorem dX12_comesBack_1 : decode cX12_comesBack 1 = .ok (.istore_n 1, 1) := by decide +kernel
theorem dX12_comesBack_2 : decode cX12_comesBack 2 = .ok (.iload_n 1, 1) := by decide +kernel
theorem dX12_comesBack_3 : decode cX12_comesBack 3 = .ok (.sipush 313, 3) := by decide +kernel
theorem dX12_comesBack_6 : decode cX12_comesBack 6 = .ok (.if_icmp .ge 21, 3) := by decide +kernel
theorem dX12_comesBack_9 : decode cX12_comesBack 9 = .ok (.aload_n 0, 1) := by decide +kernel
theorem dX12_comesBack_10 : decode cX12_comesBack 10 = .ok (.getfield 9, 3) := by decide +kernel
theorem dX12_comesBack_13 : decode cX12_comesBack 13 = .ok (.iload_n 1, 1) := by decide +kernel
theorem dX12_comesBack_14 : decode cX12_comesBack 14 = .ok (.aload_n 0, 1) := by decide +kernel
theorem dX12_comesBack_15 : decode cX12_comesBack 15 = .ok (.getfield 13, 3) := by decide +kernel
theorem dX12_comesBack_18 : decode cX12_comesBack 18 = .ok (.iload_n 1, 1) := by decide +kernel
theorem dX12_comesBack_19 : decode cX12_comesBack 19 = .ok (.iaload, 1) := by decide +kernel
theorem dX12_comesBack_20 : decode cX12_comesBack 20 = .ok (.iastore, 1) := by decide +kernel
theorem dX12_comesBack_21 : decode cX12_comesBack 21 = .ok (.iinc 1 1, 3) := by decide +kernel
theorem dX12_comesBack_24 : decode cX12_comesBack 24 = .ok (.goto (-22), 3) := by decide +kernel
theorem dX12_comesBack_27 : decode cX12_comesBack 27 = .ok (.return_, 1) := by decide +kernel
theorem dX12_keeps_0 : decode cX12_keeps 0 = .ok (.aload_n 0, 1) := by decide +kernel
theorem dX12_keeps_1 : decode cX12_keeps 1 = .ok (.getfield 48, 3) := by decide +kernel
theorem dX12_keeps_4 : decode cX12_keeps 4 = .ok (.bipush 8, 2) := by decide +kernel
theorem dX12_keeps_6 : decode cX12_keeps 6 = .ok (.if_icmp .ne 44, 3) := by decide +kernel
theorem dX12_keeps_9 : decode cX12_keeps 9 = .ok (.iconst 0, 1) := by decide +kernel
theorem dX12_keeps_10 : decode cX12_keeps 10 = .ok (.istore_n 1, 1) := by decide +kernel
theorem dX12_keeps_11 : decode cX12_keeps 11 = .ok (.iload_n 1, 1) := by decide +kernel
theorem dX12_keeps_12 : decode cX12_keeps 12 = .ok (.sipush 2191, 3) := by decide +kernel
theorem dX12_keeps_15 : decode cX12_keeps 15 = .ok (.if_icmp .ge 25, 3) := by decide +kernel
theorem dX12_keeps_18 : decode cX12_keeps 18 = .ok (.aload_n 0, 1) := by decide +kernel
theorem dX12_keeps_19 : decode cX12_keeps 19 = .ok (.getfield 16, 3) := by decide +kernel
theorem dX12_keeps_22 : decode cX12_keeps 22 = .ok (.iload_n 1, 1) := by decide +kernel
theorem dX12_keeps_23 : decode cX12_keeps 23 = .ok (.aload_n 0, 1) := by decide +kernel
theorem dX12_keeps_24 : decode cX12_keeps 24 = .ok (.getfield 16, 3) := by decide +kernel
theorem dX12_keeps_27 : decode cX12_keeps 27 = .ok (.sipush 313, 3) := by decide +kernel
theorem dX12_keeps_30 : decode cX12_keeps 30 = .ok (.iload_n 1, 1) := by decide +kernel
theorem dX12_keeps_31 : decode cX12_keeps 31 = .ok (.iadd, 1) := by decide +kernel
theorem dX12_keeps_32 : decode cX12_keeps 32 = .ok (.iaload, 1) := by decide +kernel
theorem dX12_keeps_33 : decode cX12_keeps 33 = .ok (.iastore, 1) := by decide +kernel
theorem dX12_keeps_34 : decode cX12_keeps 34 = .ok (.iinc 1 1, 3) := by decide +kernel
theorem dX12_keeps_37 : decode cX12_keeps 37 = .ok (.goto (-26), 3) := by decide +kernel
theorem dX12_keeps_40 : decode cX12_keeps 40 = .ok (.aload_n 0, 1) := by decide +kernel
theorem dX12_keeps_41 : decode cX12_keeps 41 = .ok (.dup, 1) := by decide +kernel
theorem dX12_keeps_42 : decode cX12_keeps 42 = .ok (.getfield 48, 3) := by decide +kernel
theorem dX12_keeps_45 : decode cX12_keeps 45 = .ok (.iconst 1, 1) := by decide +kernel
theorem dX12_keeps_46 : decode cX12_keeps 46 = .ok (.isub, 1) := by decide +kernel
theorem dX12_keeps_47 : decode cX12_keeps 47 = .ok (.putfield 48, 3) := by decide +kernel
theorem dX12_keeps_50 : decode cX12_keeps 50 = .ok (.iconst 0, 1) := by decide +kernel
theorem dX12_keeps_51 : decode cX12_keeps 51 = .ok (.istore_n 1, 1) := by decide +kernel
theorem dX12_keeps_52 : decode cX12_keeps 52 = .ok (.iload_n 1, 1) := by decide +kernel
theorem dX12_keeps_53 : decode cX12_keeps 53 = .ok (.sipush 313, 3) := by decide +kernel
theorem dX12_keeps_56 : decode cX12_keeps 56 = .ok (.if_icmp .ge 30, 3) := by decide +kernel
theorem dX12_keeps_59 : decode cX12_keeps 59 = .ok (.aload_n 0, 1) := by decide +kernel
theorem dX12_keeps_60 : decode cX12_keeps 60 = .ok (.getfield 16, 3) := by decide +kernel
theorem dX12_keeps_63 : decode cX12_keeps 63 = .ok (.sipush 313, 3) := by decide +kernel
theorem dX12_keeps_66 : decode cX12_keeps 66 = .ok (.aload_n 0, 1) := by decide +kernel
theorem dX12_keeps_67 : decode cX12_keeps 67 = .ok (.getfield 48, 3) := by decide +kernel
theorem dX12_keeps_70 : decode cX12_keeps 70 = .ok (.imul, 1) := by decide +kernel
theorem dX12_keeps_71 : decode cX12_keeps 71 = .ok (.iload_n 1, 1) := by decide +kernel
theorem dX12_keeps_72 : decode cX12_keeps 72 = .ok (.iadd, 1) := by decide +kernel
theorem dX12_keeps_73 : decode cX12_keeps 73 = .ok (.aload_n 0, 1) := by decide +kernel
theorem dX12_keeps_74 : decode cX12_keeps 74 = .ok (.getfield 13, 3) := by decide +kernel
theorem dX12_keeps_77 : decode cX12_keeps 77 = .ok (.iload_n 1, 1) := by decide +kernel
theorem dX12_keeps_78 : decode cX12_keeps 78 = .ok (.iaload, 1) := by decide +kernel
theorem dX12_keeps_79 : decode cX12_keeps 79 = .ok (.iastore, 1) := by decide +kernel
theorem dX12_keeps_80 : decode cX12_keeps 80 = .ok (.iinc 1 1, 3) := by decide +kernel
theorem dX12_keeps_83 : decode cX12_keeps 83 = .ok (.goto (-31), 3) := by decide +kernel
theorem dX12_keeps_86 : decode cX12_keeps 86 = .ok (.aload_n 0, 1) := by decide +kernel
theorem dX12_keeps_87 : decode cX12_keeps 87 = .ok (.dup, 1) := by decide +kernel
theorem dX12_keeps_88 : decode cX12_keeps 88 = .ok (.getfield 48, 3) := by decide +kernel
theorem dX12_keeps_91 : decode cX12_keeps 91 = .ok (.iconst 1, 1) := by decide +kernel
theorem dX12_keeps_92 : decode cX12_keeps 92 = .ok (.iadd, 1) := by decide +kernel
theorem dX12_keeps_93 : decode cX12_keeps 93 = .ok (.putfield 48, 3) := by decide +kernel
theorem dX12_keeps_96 : decode cX12_keeps 96 = .ok (.return_, 1) := by decide +kernel
theorem dX12_refuses_0 : decode cX12_refuses 0 = .ok (.aload_n 0, 1) := by decide +kernel
theorem dX12_refuses_1 : decode cX12_refuses 1 = .ok (.iconst 1, 1) := by decide +kernel
theorem dX12_refuses_2 : decode cX12_refuses 2 = .ok (.putfield 51, 3) := by decide +kernel
theorem dX12_refuses_5 : decode cX12_refuses 5 = .ok (.aload_n 0, 1) := by decide +kernel
theorem dX12_refuses_6 : decode cX12_refuses 6 = .ok (.getfield 30, 3) := by decide +kernel
theorem dX12_refuses_9 : decode cX12_refuses 9 = .ok (.iconst 0, 1) := by decide +kernel
theorem dX12_refuses_10 : decode cX12_refuses 10 = .ok (.iload_n 1, 1) := by decide +kernel
theorem dX12_refuses_11 : decode cX12_refuses 11 = .ok (.iastore, 1) := by decide +kernel
theorem dX12_refuses_12 : decode cX12_refuses 12 = .ok (.aload_n 0, 1) := by decide +kernel
theorem dX12_refuses_13 : decode cX12_refuses 13 = .ok (.getfield 33, 3) := by decide +kernel
theorem dX12_refuses_16 : decode cX12_refuses 16 = .ok (.iconst 0, 1) := by decide +kernel
theorem dX12_refuses_17 : decode cX12_refuses 17 = .ok (.iload_n 2, 1) := by decide +kernel
theorem dX12_refuses_18 : decode cX12_refuses 18 = .ok (.iastore, 1) := by decide +kernel
theorem dX12_refuses_19 : decode cX12_refuses 19 = .ok (.iconst 0, 1) := by decide +kernel
theorem dX12_refuses_20 : decode cX12_refuses 20 = .ok (.ireturn, 1) := by decide +kernel
theorem dX12_behind_0 : decode cX12_behind 0 = .ok (.aload_n 0, 1) := by decide +kernel
theorem dX12_behind_1 : decode cX12_behind 1 = .ok (.getfield 30, 3) := by decide +kernel
theorem dX12_behind_4 : decode cX12_behind 4 = .ok (.aload_n 0, 1) := by decide +kernel
theorem dX12_behind_5 : decode cX12_behind 5 = .ok (.getfield 51, 3) := by decide +kernel
theorem dX12_behind_8 : decode cX12_behind 8 = .ok (.iload_n 1, 1) := by decide +kernel
theorem dX12_behind_9 : decode cX12_behind 9 = .ok (.iastore, 1) := by decide +kernel
theorem dX12_behind_10 : decode cX12_behind 10 = .ok (.aload_n 0, 1) := by decide +kernel
theorem dX12_behind_11 : decode cX12_behind 11 = .ok (.getfield 33, 3) := by decide +kernel
theorem dX12_behind_14 : decode cX12_behind 14 = .ok (.aload_n 0, 1) := by decide +kernel
theorem dX12_behind_15 : decode cX12_behind 15 = .ok (.getfield 51, 3) := by decide +kernel
theorem dX12_behind_18 : decode cX12_behind 18 = .ok (.iload_n 2, 1) := by decide +kernel
theorem dX12_behind_19 : decode cX12_behind 19 = .ok (.iastore, 1) := by decide +kernel
theorem dX12_behind_20 : decode cX12_behind 20 = .ok (.aload_n 0, 1) := by decide +kernel
theorem dX12_behind_21 : decode cX12_behind 21 = .ok (.dup, 1) := by decide +kernel
theorem dX12_behind_22 : decode cX12_behind 22 = .ok (.getfield 51, 3) := by decide +kernel
theorem dX12_behind_25 : decode cX12_behind 25 = .ok (.iconst 1, 1) := by decide +kernel
theorem dX12_behind_26 : decode cX12_behind 26 = .ok (.iadd, 1) := by decide +kernel
theorem dX12_behind_27 : decode cX12_behind 27 = .ok (.putfield 51, 3) := by decide +kernel
theorem dX12_behind_30 : decode cX12_behind 30 = .ok (.return_, 1) := by decide +kernel
theorem dX12_ends_0 : decode cX12_ends 0 = .ok (.iload_n 1, 1) := by decide +kernel
theorem dX12_ends_1 : decode cX12_ends 1 = .ok (.ifCond .ne 9, 3) := by decide +kernel
theorem dX12_ends_4 : decode cX12_ends 4 = .ok (.aload_n 0, 1) := by decide +kernel
theorem dX12_ends_5 : decode cX12_ends 5 = .ok (.iconst 1, 1) := by decide +kernel
theorem dX12_ends_6 : decode cX12_ends 6 = .ok (.invokevirtual 54, 3) := by decide +kernel
theorem dX12_ends_9 : decode cX12_ends 9 = .ok (.ireturn, 1) := by decide +kernel
theorem dX12_ends_10 : decode cX12_ends 10 = .ok (.aload_n 0, 1) := by decide +kernel
theorem dX12_ends_11 : decode cX12_ends 11 = .ok (.invokevirtual 58, 3) := by decide +kernel
theorem dX12_ends_14 : decode cX12_ends 14 = .ok (.aload_n 0, 1) := by decide +kernel
theorem dX12_ends_15 : decode cX12_ends 15 = .ok (.getfield 61, 3) := by decide +kernel
theorem dX12_ends_18 : decode cX12_ends 18 = .ok (.ireturn, 1) := by decide +kernel
theorem dX12_is_0 : decode cX12_is 0 = .ok (.aload_n 0, 1) := by decide +kernel
theorem dX12_is_1 : decode cX12_is 1 = .ok (.iload_n 1, 1) := by decide +kernel
theorem dX12_is_2 : decode cX12_is 2 = .ok (.putfield 61, 3) := by decide +kernel
theorem dX12_is_5 : decode cX12_is 5 = .ok (.iconst 1, 1) := by decide +kernel
theorem dX12_is_6 : decode cX12_is 6 = .ok (.ireturn, 1) := by decide +kernel
theorem dX12_isColour_0 : decode cX12_isColour 0 = .ok (.iload_n 1, 1) := by decide +kernel
theorem dX12_isColour_1 : decode cX12_isColour 1 = .ok (.iconst 0, 1) := by decide +kernel
theorem dX12_isColour_2 : decode cX12_isColour 2 = .ok (.aload_n 0, 1) := by decide +kernel
theorem dX12_isColour_3 : decode cX12_isColour 3 = .ok (.getfield 9, 3) := by decide +kernel
theorem dX12_isColour_6 : decode cX12_isColour 6 = .ok (.iconst 0, 1) := by decide +kernel
theorem dX12_isColour_7 : decode cX12_isColour 7 = .ok (.iaload, 1) := by decide +kernel
theorem dX12_isColour_8 : decode cX12_isColour 8 = .ok (.iconst 1, 1) := by decide +kernel
theorem dX12_isColour_9 : decode cX12_isColour 9 = .ok (.isub, 1) := by decide +kernel
theorem dX12_isColour_10 : decode cX12_isColour 10 = .ok (.invokestatic 64, 3) := by decide +kernel
theorem dX12_isColour_13 : decode cX12_isColour 13 = .ok (.ireturn, 1) := by decide +kernel
theorem dX12_isPart_0 : decode cX12_isPart 0 = .ok (.iload_n 1, 1) := by decide +kernel
theorem dX12_isPart_1 : decode cX12_isPart 1 = .ok (.iconst 0, 1) := by decide +kernel
theorem dX12_isPart_2 : decode cX12_isPart 2 = .ok (.aload_n 0, 1) := by decide +kernel
theorem dX12_isPart_3 : decode cX12_isPart 3 = .ok (.getfield 9, 3) := by decide +kernel
theorem dX12_isPart_6 : decode cX12_isPart 6 = .ok (.iconst 1, 1) := by decide +kernel
theorem dX12_isPart_7 : decode cX12_isPart 7 = .ok (.iaload, 1) := by decide +kernel
theorem dX12_isPart_8 : decode cX12_isPart 8 = .ok (.iconst 1, 1) := by decide +kernel
theorem dX12_isPart_9 : decode cX12_isPart 9 = .ok (.isub, 1) := by decide +kernel
theorem dX12_isPart_10 : decode cX12_isPart 10 = .ok (.invokestatic 64, 3) := by decide +kernel
theorem dX12_isPart_13 : decode cX12_isPart 13 = .ok (.ireturn, 1) := by decide +kernel
theorem dX12_isFamily_0 : decode cX12_isFamily 0 = .ok (.iload_n 1, 1) := by decide +kernel
theorem dX12_isFamily_1 : decode cX12_isFamily 1 = .ok (.iconst 0, 1) := by decide +kernel
theorem dX12_isFamily_2 : decode cX12_isFamily 2 = .ok (.aload_n 0, 1) := by decide +kernel
theorem dX12_isFamily_3 : decode cX12_isFamily 3 = .ok (.getfield 9, 3) := by decide +kernel
theorem dX12_isFamily_6 : decode cX12_isFamily 6 = .ok (.iconst 2, 1) := by decide +kernel
theorem dX12_isFamily_7 : decode cX12_isFamily 7 = .ok (.iaload, 1) := by decide +kernel
theorem dX12_isFamily_8 : decode cX12_isFamily 8 = .ok (.iconst 1, 1) := by decide +kernel
theorem dX12_isFamily_9 : decode cX12_isFamily 9 = .ok (.isub, 1) := by decide +kernel
theorem dX12_isFamily_10 : decode cX12_isFamily 10 = .ok (.invokestatic 64, 3) := by decide +kernel
theorem dX12_isFamily_13 : decode cX12_isFamily 13 = .ok (.ireturn, 1) := by decide +kernel
theorem dX12_isDryer_0 : decode cX12_isDryer 0 = .ok (.iload_n 0, 1) := by decide +kernel
theorem dX12_isDryer_1 : decode cX12_isDryer 1 = .ok (.iconst 0, 1) := by decide +kernel
theorem dX12_isDryer_2 : decode cX12_isDryer 2 = .ok (.iconst 2, 1) := by decide +kernel
theorem dX12_isDryer_3 : decode cX12_isDryer 3 = .ok (.invokestatic 64, 3) := by decide +kernel
theorem dX12_isDryer_6 : decode cX12_isDryer 6 = .ok (.ireturn, 1) := by decide +kernel
theorem dX12_isOrder_0 : decode cX12_isOrder 0 = .ok (.iload_n 1, 1) := by decide +kernel
theorem dX12_isOrder_1 : decode cX12_isOrder 1 = .ok (.iconst 0, 1) := by decide +kernel
theorem dX12_isOrder_2 : decode cX12_isOrder 2 = .ok (.aload_n 0, 1) := by decide +kernel
theorem dX12_isOrder_3 : decode cX12_isOrder 3 = .ok (.getfield 9, 3) := by decide +kernel
theorem dX12_isOrder_6 : decode cX12_isOrder 6 = .ok (.iconst 3, 1) := by decide +kernel
theorem dX12_isOrder_7 : decode cX12_isOrder 7 = .ok (.iaload, 1) := by decide +kernel
theorem dX12_isOrder_8 : decode cX12_isOrder 8 = .ok (.iconst 1, 1) := by decide +kernel
theorem dX12_isOrder_9 : decode cX12_isOrder 9 = .ok (.isub, 1) := by decide +kernel
theorem dX12_isOrder_10 : decode cX12_isOrder 10 = .ok (.invokestatic 64, 3) := by decide +kernel
theorem dX12_isOrder_13 : decode cX12_isOrder 13 = .ok (.ireturn, 1) := by decide +kernel
theorem dX12_of_0 : decode cX12_of 0 = .ok (.aload_n 0, 1) := by decide +kernel
theorem dX12_of_1 : decode cX12_of 1 = .ok (.getfield 9, 3) := by decide +kernel
theorem dX12_of_4 : decode cX12_of 4 = .ok (.bipush 46, 2) := by decide +kernel
theorem dX12_of_6 : decode cX12_of 6 = .ok (.bipush 9, 2) := by decide +kernel
theorem dX12_of_8 : decode cX12_of 8 = .ok (.iload_n 1, 1) := by decide +kernel
theorem dX12_of_9 : decode cX12_of 9 = .ok (.imul, 1) := by decide +kernel
theorem dX12_of_10 : decode cX12_of 10 = .ok (.iadd, 1) := by decide +kernel
theorem dX12_of_11 : decode cX12_of 11 = .ok (.iload_n 2, 1) := by decide +kernel
theorem dX12_of_12 : decode cX12_of 12 = .ok (.iadd, 1) := by decide +kernel
theorem dX12_of_13 : decode cX12_of 13 = .ok (.iaload, 1) := by decide +kernel
theorem dX12_of_14 : decode cX12_of 14 = .ok (.ireturn, 1) := by decide +kernel
theorem dX12_ordered_0 : decode cX12_ordered 0 = .ok (.aload_n 0, 1) := by decide +kernel
theorem dX12_ordered_1 : decode cX12_ordered 1 = .ok (.getfield 9, 3) := by decide +kernel
theorem dX12_ordered_4 : decode cX12_ordered 4 = .ok (.sipush 253, 3) := by decide +kernel
theorem dX12_ordered_7 : decode cX12_ordered 7 = .ok (.bipush 6, 2) := by decide +kernel
theorem dX12_ordered_9 : decode cX12_ordered 9 = .ok (.iload_n 1, 1) := by decide +kernel
theorem dX12_ordered_10 : decode cX12_ordered 10 = .ok (.imul, 1) := by decide +kernel
theorem dX12_ordered_11 : decode cX12_ordered 11 = .ok (.iadd, 1) := by decide +kernel
theorem dX12_ordered_12 : decode cX12_ordered 12 = .ok (.iload_n 2, 1) := by decide +kernel
theorem dX12_ordered_13 : decode cX12_ordered 13 = .ok (.iadd, 1) := by decide +kernel
theorem dX12_ordered_14 : decode cX12_ordered 14 = .ok (.iaload, 1) := by decide +kernel
theorem dX12_ordered_15 : decode cX12_ordered 15 = .ok (.ireturn, 1) := by decide +kernel
theorem dX12_place_0 : decode cX12_place 0 = .ok (.bipush 6, 2) := by decide +kernel
theorem dX12_place_2 : decode cX12_place 2 = .ok (.iload_n 0, 1) := by decide +kernel
theorem dX12_place_3 : decode cX12_place 3 = .ok (.imul, 1) := by decide +kernel
theorem dX12_place_4 : decode cX12_place 4 = .ok (.iload_n 1, 1) := by decide +kernel
theorem dX12_place_5 : decode cX12_place 5 = .ok (.iadd, 1) := by decide +kernel
theorem dX12_place_6 : decode cX12_place 6 = .ok (.ireturn, 1) := by decide +kernel
theorem dX12_weekEnds_0 : decode cX12_weekEnds 0 = .ok (.iconst 0, 1) := by decide +kernel
theorem dX12_weekEnds_1 : decode cX12_weekEnds 1 = .ok (.istore_n 1, 1) := by decide +kernel
theorem dX12_weekEnds_2 : decode cX12_weekEnds 2 = .ok (.iload_n 1, 1) := by decide +kernel
theorem dX12_weekEnds_3 : decode cX12_weekEnds 3 = .ok (.aload_n 0, 1) := by decide +kernel
theorem dX12_weekEnds_4 : decode cX12_weekEnds 4 = .ok (.getfield 9, 3) := by decide +kernel
theorem dX12_weekEnds_7 : decode cX12_weekEnds 7 = .ok (.iconst 3, 1) := by decide +kernel
theorem dX12_weekEnds_8 : decode cX12_weekEnds 8 = .ok (.iaload, 1) := by decide +kernel
theorem dX12_weekEnds_9 : decode cX12_weekEnds 9 = .ok (.if_icmp .ge 153, 3) := by decide +kernel
theorem dX12_weekEnds_12 : decode cX12_weekEnds 12 = .ok (.sipush 253, 3) := by decide +kernel
theorem dX12_weekEnds_15 : decode cX12_weekEnds 15 = .ok (.bipush 6, 2) := by decide +kernel
theorem dX12_weekEnds_17 : decode cX12_weekEnds 17 = .ok (.iload_n 1, 1) := by decide +kernel
theorem dX12_weekEnds_18 : decode cX12_weekEnds 18 = .ok (.imul, 1) := by decide +kernel
theorem dX12_weekEnds_19 : decode cX12_weekEnds 19 = .ok (.iadd, 1) := by decide +kernel
theorem dX12_weekEnds_20 : decode cX12_weekEnds 20 = .ok (.istore_n 2, 1) := by decide +kernel
theorem dX12_weekEnds_21 : decode cX12_weekEnds 21 = .ok (.aload_n 0, 1) := by decide +kernel
theorem dX12_weekEnds_22 : decode cX12_weekEnds 22 = .ok (.getfield 9, 3) := by decide +kernel
theorem dX12_weekEnds_25 : decode cX12_weekEnds 25 = .ok (.iload_n 2, 1) := by decide +kernel
theorem dX12_weekEnds_26 : decode cX12_weekEnds 26 = .ok (.iconst 4, 1) := by decide +kernel
theorem dX12_weekEnds_27 : decode cX12_weekEnds 27 = .ok (.iadd, 1) := by decide +kernel
theorem dX12_weekEnds_28 : decode cX12_weekEnds 28 = .ok (.iaload, 1) := by decide +kernel
theorem dX12_weekEnds_29 : decode cX12_weekEnds 29 = .ok (.ifCond .ne 127, 3) := by decide +kernel
theorem dX12_weekEnds_32 : decode cX12_weekEnds 32 = .ok (.aload_n 0, 1) := by decide +kernel
theorem dX12_weekEnds_33 : decode cX12_weekEnds 33 = .ok (.getfield 9, 3) := by decide +kernel
theorem dX12_weekEnds_36 : decode cX12_weekEnds 36 = .ok (.iload_n 2, 1) := by decide +kernel
theorem dX12_weekEnds_37 : decode cX12_weekEnds 37 = .ok (.iconst 3, 1) := by decide +kernel
theorem dX12_weekEnds_38 : decode cX12_weekEnds 38 = .ok (.iadd, 1) := by decide +kernel
theorem dX12_weekEnds_39 : decode cX12_weekEnds 39 = .ok (.iaload, 1) := by decide +kernel
theorem dX12_weekEnds_40 : decode cX12_weekEnds 40 = .ok (.aload_n 0, 1) := by decide +kernel
theorem dX12_weekEnds_41 : decode cX12_weekEnds 41 = .ok (.getfield 9, 3) := by decide +kernel
theorem dX12_weekEnds_44 : decode cX12_weekEnds 44 = .ok (.bipush 7, 2) := by decide +kernel
theorem dX12_weekEnds_46 : decode cX12_weekEnds 46 = .ok (.iaload, 1) := by decide +kernel
theorem dX12_weekEnds_47 : decode cX12_weekEnds 47 = .ok (.if_icmp .le 6, 3) := by decide +kernel
theorem dX12_weekEnds_50 : decode cX12_weekEnds 50 = .ok (.goto 106, 3) := by decide +kernel
theorem dX12_weekEnds_53 : decode cX12_weekEnds 53 = .ok (.aload_n 0, 1) := by decide +kernel
theorem dX12_weekEnds_54 : decode cX12_weekEnds 54 = .ok (.getfield 9, 3) := by decide +kernel
theorem dX12_weekEnds_57 : decode cX12_weekEnds 57 = .ok (.iload_n 2, 1) := by decide +kernel
theorem dX12_weekEnds_58 : decode cX12_weekEnds 58 = .ok (.iaload, 1) := by decide +kernel
theorem dX12_weekEnds_59 : decode cX12_weekEnds 59 = .ok (.aload_n 0, 1) := by decide +kernel
theorem dX12_weekEnds_60 : decode cX12_weekEnds 60 = .ok (.getfield 9, 3) := by decide +kernel
theorem dX12_weekEnds_63 : decode cX12_weekEnds 63 = .ok (.iload_n 2, 1) := by decide +kernel
theorem dX12_weekEnds_64 : decode cX12_weekEnds 64 = .ok (.iconst 1, 1) := by decide +kernel
theorem dX12_weekEnds_65 : decode cX12_weekEnds 65 = .ok (.iadd, 1) := by decide +kernel
theorem dX12_weekEnds_66 : decode cX12_weekEnds 66 = .ok (.iaload, 1) := by decide +kernel
theorem dX12_weekEnds_67 : decode cX12_weekEnds 67 = .ok (.invokestatic 68, 3) := by decide +kernel
theorem dX12_weekEnds_70 : decode cX12_weekEnds 70 = .ok (.istore_n 3, 1) := by decide +kernel
theorem dX12_weekEnds_71 : decode cX12_weekEnds 71 = .ok (.aload_n 0, 1) := by decide +kernel
theorem dX12_weekEnds_72 : decode cX12_weekEnds 72 = .ok (.getfield 9, 3) := by decide +kernel
theorem dX12_weekEnds_75 : decode cX12_weekEnds 75 = .ok (.bipush 109, 2) := by decide +kernel
theorem dX12_weekEnds_77 : decode cX12_weekEnds 77 = .ok (.iload_n 3, 1) := by decide +kernel
theorem dX12_weekEnds_78 : decode cX12_weekEnds 78 = .ok (.iadd, 1) := by decide +kernel
theorem dX12_weekEnds_79 : decode cX12_weekEnds 79 = .ok (.iaload, 1) := by decide +kernel
theorem dX12_weekEnds_80 : decode cX12_weekEnds 80 = .ok (.aload_n 0, 1) := by decide +kernel
theorem dX12_weekEnds_81 : decode cX12_weekEnds 81 = .ok (.getfield 9, 3) := by decide +kernel
theorem dX12_weekEnds_84 : decode cX12_weekEnds 84 = .ok (.iload_n 2, 1) := by decide +kernel
theorem dX12_weekEnds_85 : decode cX12_weekEnds 85 = .ok (.iconst 2, 1) := by decide +kernel
theorem dX12_weekEnds_86 : decode cX12_weekEnds 86 = .ok (.iadd, 1) := by decide +kernel
theorem dX12_weekEnds_87 : decode cX12_weekEnds 87 = .ok (.iaload, 1) := by decide +kernel
theorem dX12_weekEnds_88 : decode cX12_weekEnds 88 = .ok (.if_icmp .lt 56, 3) := by decide +kernel
theorem dX12_weekEnds_91 : decode cX12_weekEnds 91 = .ok (.aload_n 0, 1) := by decide +kernel
theorem dX12_weekEnds_92 : decode cX12_weekEnds 92 = .ok (.getfield 9, 3) := by decide +kernel
theorem dX12_weekEnds_95 : decode cX12_weekEnds 95 = .ok (.bipush 109, 2) := by decide +kernel
theorem dX12_weekEnds_97 : decode cX12_weekEnds 97 = .ok (.iload_n 3, 1) := by decide +kernel
theorem dX12_weekEnds_98 : decode cX12_weekEnds 98 = .ok (.iadd, 1) := by decide +kernel
theorem dX12_weekEnds_99 : decode cX12_weekEnds 99 = .ok (.dup2, 1) := by decide +kernel
theorem dX12_weekEnds_100 : decode cX12_weekEnds 100 = .ok (.iaload, 1) := by decide +kernel
theorem dX12_weekEnds_101 : decode cX12_weekEnds 101 = .ok (.aload_n 0, 1) := by decide +kernel
theorem dX12_weekEnds_102 : decode cX12_weekEnds 102 = .ok (.getfield 9, 3) := by decide +kernel
theorem dX12_weekEnds_105 : decode cX12_weekEnds 105 = .ok (.iload_n 2, 1) := by decide +kernel
theorem dX12_weekEnds_106 : decode cX12_weekEnds 106 = .ok (.iconst 2, 1) := by decide +kernel
theorem dX12_weekEnds_107 : decode cX12_weekEnds 107 = .ok (.iadd, 1) := by decide +kernel
theorem dX12_weekEnds_108 : decode cX12_weekEnds 108 = .ok (.iaload, 1) := by decide +kernel
theorem dX12_weekEnds_109 : decode cX12_weekEnds 109 = .ok (.isub, 1) := by decide +kernel
theorem dX12_weekEnds_110 : decode cX12_weekEnds 110 = .ok (.iastore, 1) := by decide +kernel
theorem dX12_weekEnds_111 : decode cX12_weekEnds 111 = .ok (.aload_n 0, 1) := by decide +kernel
theorem dX12_weekEnds_112 : decode cX12_weekEnds 112 = .ok (.getfield 9, 3) := by decide +kernel
theorem dX12_weekEnds_115 : decode cX12_weekEnds 115 = .ok (.sipush 205, 3) := by decide +kernel
theorem dX12_weekEnds_118 : decode cX12_weekEnds 118 = .ok (.iload_n 3, 1) := by decide +kernel
theorem dX12_weekEnds_119 : decode cX12_weekEnds 119 = .ok (.iadd, 1) := by decide +kernel
theorem dX12_weekEnds_120 : decode cX12_weekEnds 120 = .ok (.dup2, 1) := by decide +kernel
theorem dX12_weekEnds_121 : decode cX12_weekEnds 121 = .ok (.iaload, 1) := by decide +kernel
theorem dX12_weekEnds_122 : decode cX12_weekEnds 122 = .ok (.aload_n 0, 1) := by decide +kernel
theorem dX12_weekEnds_123 : decode cX12_weekEnds 123 = .ok (.getfield 9, 3) := by decide +kernel
theorem dX12_weekEnds_126 : decode cX12_weekEnds 126 = .ok (.iload_n 2, 1) := by decide +kernel
theorem dX12_weekEnds_127 : decode cX12_weekEnds 127 = .ok (.iconst 2, 1) := by decide +kernel
theorem dX12_weekEnds_128 : decode cX12_weekEnds 128 = .ok (.iadd, 1) := by decide +kernel
theorem dX12_weekEnds_129 : decode cX12_weekEnds 129 = .ok (.iaload, 1) := by decide +kernel
theorem dX12_weekEnds_130 : decode cX12_weekEnds 130 = .ok (.iadd, 1) := by decide +kernel
theorem dX12_weekEnds_131 : decode cX12_weekEnds 131 = .ok (.iastore, 1) := by decide +kernel
theorem dX12_weekEnds_132 : decode cX12_weekEnds 132 = .ok (.aload_n 0, 1) := by decide +kernel
theorem dX12_weekEnds_133 : decode cX12_weekEnds 133 = .ok (.getfield 9, 3) := by decide +kernel
theorem dX12_weekEnds_136 : decode cX12_weekEnds 136 = .ok (.iload_n 2, 1) := by decide +kernel
theorem dX12_weekEnds_137 : decode cX12_weekEnds 137 = .ok (.iconst 4, 1) := by decide +kernel
theorem dX12_weekEnds_138 : decode cX12_weekEnds 138 = .ok (.iadd, 1) := by decide +kernel
theorem dX12_weekEnds_139 : decode cX12_weekEnds 139 = .ok (.iconst 1, 1) := by decide +kernel
theorem dX12_weekEnds_140 : decode cX12_weekEnds 140 = .ok (.iastore, 1) := by decide +kernel
theorem dX12_weekEnds_141 : decode cX12_weekEnds 141 = .ok (.goto 15, 3) := by decide +kernel
theorem dX12_weekEnds_144 : decode cX12_weekEnds 144 = .ok (.aload_n 0, 1) := by decide +kernel
theorem dX12_weekEnds_145 : decode cX12_weekEnds 145 = .ok (.getfield 9, 3) := by decide +kernel
theorem dX12_weekEnds_148 : decode cX12_weekEnds 148 = .ok (.iload_n 2, 1) := by decide +kernel
theorem dX12_weekEnds_149 : decode cX12_weekEnds 149 = .ok (.iconst 5, 1) := by decide +kernel
theorem dX12_weekEnds_150 : decode cX12_weekEnds 150 = .ok (.iadd, 1) := by decide +kernel
theorem dX12_weekEnds_151 : decode cX12_weekEnds 151 = .ok (.dup2, 1) := by decide +kernel
theorem dX12_weekEnds_152 : decode cX12_weekEnds 152 = .ok (.iaload, 1) := by decide +kernel
theorem dX12_weekEnds_153 : decode cX12_weekEnds 153 = .ok (.iconst 1, 1) := by decide +kernel
theorem dX12_weekEnds_154 : decode cX12_weekEnds 154 = .ok (.iadd, 1) := by decide +kernel
theorem dX12_weekEnds_155 : decode cX12_weekEnds 155 = .ok (.iastore, 1) := by decide +kernel
theorem dX12_weekEnds_156 : decode cX12_weekEnds 156 = .ok (.iinc 1 1, 3) := by decide +kernel
theorem dX12_weekEnds_159 : decode cX12_weekEnds 159 = .ok (.goto (-157), 3) := by decide +kernel
theorem dX12_weekEnds_162 : decode cX12_weekEnds 162 = .ok (.aload_n 0, 1) := by decide +kernel
theorem dX12_weekEnds_163 : decode cX12_weekEnds 163 = .ok (.getfield 9, 3) := by decide +kernel
theorem dX12_weekEnds_166 : decode cX12_weekEnds 166 = .ok (.bipush 7, 2) := by decide +kernel
theorem dX12_weekEnds_168 : decode cX12_weekEnds 168 = .ok (.dup2, 1) := by decide +kernel
theorem dX12_weekEnds_169 : decode cX12_weekEnds 169 = .ok (.iaload, 1) := by decide +kernel
theorem dX12_weekEnds_170 : decode cX12_weekEnds 170 = .ok (.iconst 1, 1) := by decide +kernel
theorem dX12_weekEnds_171 : decode cX12_weekEnds 171 = .ok (.iadd, 1) := by decide +kernel
theorem dX12_weekEnds_172 : decode cX12_weekEnds 172 = .ok (.iastore, 1) := by decide +kernel
theorem dX12_weekEnds_173 : decode cX12_weekEnds 173 = .ok (.aload_n 0, 1) := by decide +kernel
theorem dX12_weekEnds_174 : decode cX12_weekEnds 174 = .ok (.getfield 9, 3) := by decide +kernel
theorem dX12_weekEnds_177 : decode cX12_weekEnds 177 = .ok (.bipush 8, 2) := by decide +kernel
theorem dX12_weekEnds_179 : decode cX12_weekEnds 179 = .ok (.iconst 0, 1) := by decide +kernel
theorem dX12_weekEnds_180 : decode cX12_weekEnds 180 = .ok (.iastore, 1) := by decide +kernel
theorem dX12_weekEnds_181 : decode cX12_weekEnds 181 = .ok (.return_, 1) := by decide +kernel
theorem dX12_passes_0 : decode cX12_passes 0 = .ok (.aload_n 0, 1) := by decide +kernel
theorem dX12_passes_1 : decode cX12_passes 1 = .ok (.getfield 9, 3) := by decide +kernel
theorem dX12_passes_4 : decode cX12_passes 4 = .ok (.bipush 7, 2) := by decide +kernel
theorem dX12_passes_6 : decode cX12_passes 6 = .ok (.iaload, 1) := by decide +kernel
theorem dX12_passes_7 : decode cX12_passes 7 = .ok (.istore_n 2, 1) := by decide +kernel
theorem dX12_passes_8 : decode cX12_passes 8 = .ok (.iconst 0, 1) := by decide +kernel
theorem dX12_passes_9 : decode cX12_passes 9 = .ok (.istore_n 3, 1) := by decide +kernel
theorem dX12_passes_10 : decode cX12_passes 10 = .ok (.iload_n 3, 1) := by decide +kernel
theorem dX12_passes_11 : decode cX12_passes 11 = .ok (.iload_n 1, 1) := by decide +kernel
theorem dX12_passes_12 : decode cX12_passes 12 = .ok (.if_icmp .ge 41, 3) := by decide +kernel
theorem dX12_passes_15 : decode cX12_passes 15 = .ok (.aload_n 0, 1) := by decide +kernel
theorem dX12_passes_16 : decode cX12_passes 16 = .ok (.getfield 9, 3) := by decide +kernel
theorem dX12_passes_19 : decode cX12_passes 19 = .ok (.bipush 8, 2) := by decide +kernel
theorem dX12_passes_21 : decode cX12_passes 21 = .ok (.dup2, 1) := by decide +kernel
theorem dX12_passes_22 : decode cX12_passes 22 = .ok (.iaload, 1) := by decide +kernel
theorem dX12_passes_23 : decode cX12_passes 23 = .ok (.iconst 1, 1) := by decide +kernel
theorem dX12_passes_24 : decode cX12_passes 24 = .ok (.iadd, 1) := by decide +kernel
theorem dX12_passes_25 : decode cX12_passes 25 = .ok (.iastore, 1) := by decide +kernel
theorem dX12_passes_26 : decode cX12_passes 26 = .ok (.aload_n 0, 1) := by decide +kernel
theorem dX12_passes_27 : decode cX12_passes 27 = .ok (.getfield 9, 3) := by decide +kernel
theorem dX12_passes_30 : decode cX12_passes 30 = .ok (.bipush 8, 2) := by decide +kernel
theorem dX12_passes_32 : decode cX12_passes 32 = .ok (.iaload, 1) := by decide +kernel
theorem dX12_passes_33 : decode cX12_passes 33 = .ok (.aload_n 0, 1) := by decide +kernel
theorem dX12_passes_34 : decode cX12_passes 34 = .ok (.getfield 9, 3) := by decide +kernel
theorem dX12_passes_37 : decode cX12_passes 37 = .ok (.bipush 12, 2) := by decide +kernel
theorem dX12_passes_39 : decode cX12_passes 39 = .ok (.iaload, 1) := by decide +kernel
theorem dX12_passes_40 : decode cX12_passes 40 = .ok (.if_icmp .lt 7, 3) := by decide +kernel
theorem dX12_passes_43 : decode cX12_passes 43 = .ok (.aload_n 0, 1) := by decide +kernel
theorem dX12_passes_44 : decode cX12_passes 44 = .ok (.invokevirtual 72, 3) := by decide +kernel
theorem dX12_passes_47 : decode cX12_passes 47 = .ok (.iinc 3 1, 3) := by decide +kernel
theorem dX12_passes_50 : decode cX12_passes 50 = .ok (.goto (-40), 3) := by decide +kernel
theorem dX12_passes_53 : decode cX12_passes 53 = .ok (.aload_n 0, 1) := by decide +kernel
theorem dX12_passes_54 : decode cX12_passes 54 = .ok (.getfield 9, 3) := by decide +kernel
theorem dX12_passes_57 : decode cX12_passes 57 = .ok (.bipush 6, 2) := by decide +kernel
theorem dX12_passes_59 : decode cX12_passes 59 = .ok (.dup2, 1) := by decide +kernel
theorem dX12_passes_60 : decode cX12_passes 60 = .ok (.iaload, 1) := by decide +kernel
theorem dX12_passes_61 : decode cX12_passes 61 = .ok (.iload_n 1, 1) := by decide +kernel
theorem dX12_passes_62 : decode cX12_passes 62 = .ok (.iadd, 1) := by decide +kernel
theorem dX12_passes_63 : decode cX12_passes 63 = .ok (.iastore, 1) := by decide +kernel
theorem dX12_passes_64 : decode cX12_passes 64 = .ok (.iconst 0, 1) := by decide +kernel
theorem dX12_passes_65 : decode cX12_passes 65 = .ok (.istore_n 3, 1) := by decide +kernel
theorem dX12_passes_66 : decode cX12_passes 66 = .ok (.iload_n 3, 1) := by decide +kernel
theorem dX12_passes_67 : decode cX12_passes 67 = .ok (.iconst 3, 1) := by decide +kernel
theorem dX12_passes_68 : decode cX12_passes 68 = .ok (.if_icmp .ge 40, 3) := by decide +kernel
theorem dX12_passes_71 : decode cX12_passes 71 = .ok (.aload_n 0, 1) := by decide +kernel
theorem dX12_passes_72 : decode cX12_passes 72 = .ok (.getfield 9, 3) := by decide +kernel
theorem dX12_passes_75 : decode cX12_passes 75 = .ok (.bipush 100, 2) := by decide +kernel
theorem dX12_passes_77 : decode cX12_passes 77 = .ok (.iconst 3, 1) := by decide +kernel
theorem dX12_passes_78 : decode cX12_passes 78 = .ok (.iload_n 3, 1) := by decide +kernel
theorem dX12_passes_79 : decode cX12_passes 79 = .ok (.imul, 1) := by decide +kernel
theorem dX12_passes_80 : decode cX12_passes 80 = .ok (.iadd, 1) := by decide +kernel
theorem dX12_passes_81 : decode cX12_passes 81 = .ok (.iaload, 1) := by decide +kernel
theorem dX12_passes_82 : decode cX12_passes 82 = .ok (.ifCond .lt 20, 3) := by decide +kernel
theorem dX12_passes_85 : decode cX12_passes 85 = .ok (.aload_n 0, 1) := by decide +kernel
theorem dX12_passes_86 : decode cX12_passes 86 = .ok (.getfield 9, 3) := by decide +kernel
theorem dX12_passes_89 : decode cX12_passes 89 = .ok (.bipush 100, 2) := by decide +kernel
theorem dX12_passes_91 : decode cX12_passes 91 = .ok (.iconst 3, 1) := by decide +kernel
theorem dX12_passes_92 : decode cX12_passes 92 = .ok (.iload_n 3, 1) := by decide +kernel
theorem dX12_passes_93 : decode cX12_passes 93 = .ok (.imul, 1) := by decide +kernel
theorem dX12_passes_94 : decode cX12_passes 94 = .ok (.iadd, 1) := by decide +kernel
theorem dX12_passes_95 : decode cX12_passes 95 = .ok (.iconst 2, 1) := by decide +kernel
theorem dX12_passes_96 : decode cX12_passes 96 = .ok (.iadd, 1) := by decide +kernel
theorem dX12_passes_97 : decode cX12_passes 97 = .ok (.dup2, 1) := by decide +kernel
theorem dX12_passes_98 : decode cX12_passes 98 = .ok (.iaload, 1) := by decide +kernel
theorem dX12_passes_99 : decode cX12_passes 99 = .ok (.iload_n 1, 1) := by decide +kernel
theorem dX12_passes_100 : decode cX12_passes 100 = .ok (.iadd, 1) := by decide +kernel
theorem dX12_passes_101 : decode cX12_passes 101 = .ok (.iastore, 1) := by decide +kernel
theorem dX12_passes_102 : decode cX12_passes 102 = .ok (.iinc 3 1, 3) := by decide +kernel
theorem dX12_passes_105 : decode cX12_passes 105 = .ok (.goto (-39), 3) := by decide +kernel
theorem dX12_passes_108 : decode cX12_passes 108 = .ok (.aload_n 0, 1) := by decide +kernel
theorem dX12_passes_109 : decode cX12_passes 109 = .ok (.getfield 9, 3) := by decide +kernel
theorem dX12_passes_112 : decode cX12_passes 112 = .ok (.bipush 7, 2) := by decide +kernel
theorem dX12_passes_114 : decode cX12_passes 114 = .ok (.iaload, 1) := by decide +kernel
theorem dX12_passes_115 : decode cX12_passes 115 = .ok (.iload_n 2, 1) := by decide +kernel
theorem dX12_passes_116 : decode cX12_passes 116 = .ok (.isub, 1) := by decide +kernel
theorem dX12_passes_117 : decode cX12_passes 117 = .ok (.ireturn, 1) := by decide +kernel
theorem dX12_doesColour_0 : decode cX12_doesColour 0 = .ok (.iload_n 1, 1) := by decide +kernel
theorem dX12_doesColour_1 : decode cX12_doesColour 1 = .ok (.iconst 0, 1) := by decide +kernel
theorem dX12_doesColour_2 : decode cX12_doesColour 2 = .ok (.bipush 9, 2) := by decide +kernel
theorem dX12_doesColour_4 : decode cX12_doesColour 4 = .ok (.invokestatic 64, 3) := by decide +kernel
theorem dX12_doesColour_7 : decode cX12_doesColour 7 = .ok (.ifCond .ne 10, 3) := by decide +kernel
theorem dX12_doesColour_10 : decode cX12_doesColour 10 = .ok (.aload_n 0, 1) := by decide +kernel
theorem dX12_doesColour_11 : decode cX12_doesColour 11 = .ok (.iconst 2, 1) := by decide +kernel
theorem dX12_doesColour_12 : decode cX12_doesColour 12 = .ok (.iconst 0, 1) := by decide +kernel
theorem dX12_doesColour_13 : decode cX12_doesColour 13 = .ok (.invokevirtual 75, 3) := by decide +kernel
theorem dX12_doesColour_16 : decode cX12_doesColour 16 = .ok (.ireturn, 1) := by decide +kernel
theorem dX12_doesColour_17 : decode cX12_doesColour 17 = .ok (.aload_n 0, 1) := by decide +kernel
theorem dX12_doesColour_18 : decode cX12_doesColour 18 = .ok (.getfield 9, 3) := by decide +kernel
theorem dX12_doesColour_21 : decode cX12_doesColour 21 = .ok (.iconst 0, 1) := by decide +kernel
theorem dX12_doesColour_22 : decode cX12_doesColour 22 = .ok (.iaload, 1) := by decide +kernel
theorem dX12_doesColour_23 : decode cX12_doesColour 23 = .ok (.bipush 6, 2) := by decide +kernel
theorem dX12_doesColour_25 : decode cX12_doesColour 25 = .ok (.if_icmp .ne 10, 3) := by decide +kernel
theorem dX12_doesColour_28 : decode cX12_doesColour 28 = .ok (.aload_n 0, 1) := by decide +kernel
theorem dX12_doesColour_29 : decode cX12_doesColour 29 = .ok (.iconst 3, 1) := by decide +kernel
theorem dX12_doesColour_30 : decode cX12_doesColour 30 = .ok (.iconst 0, 1) := by decide +kernel
theorem dX12_doesColour_31 : decode cX12_doesColour 31 = .ok (.invokevirtual 75, 3) := by decide +kernel
theorem dX12_doesColour_34 : decode cX12_doesColour 34 = .ok (.ireturn, 1) := by decide +kernel
theorem dX12_doesColour_35 : decode cX12_doesColour 35 = .ok (.aload_n 0, 1) := by decide +kernel
theorem dX12_doesColour_36 : decode cX12_doesColour 36 = .ok (.getfield 9, 3) := by decide +kernel
theorem dX12_doesColour_39 : decode cX12_doesColour 39 = .ok (.bipush 16, 2) := by decide +kernel
theorem dX12_doesColour_41 : decode cX12_doesColour 41 = .ok (.aload_n 0, 1) := by decide +kernel
theorem dX12_doesColour_42 : decode cX12_doesColour 42 = .ok (.getfield 9, 3) := by decide +kernel
theorem dX12_doesColour_45 : decode cX12_doesColour 45 = .ok (.iconst 0, 1) := by decide +kernel
theorem dX12_doesColour_46 : decode cX12_doesColour 46 = .ok (.iaload, 1) := by decide +kernel
theorem dX12_doesColour_47 : decode cX12_doesColour 47 = .ok (.iadd, 1) := by decide +kernel
theorem dX12_doesColour_48 : decode cX12_doesColour 48 = .ok (.iload_n 1, 1) := by decide +kernel
theorem dX12_doesColour_49 : decode cX12_doesColour 49 = .ok (.iastore, 1) := by decide +kernel
theorem dX12_doesColour_50 : decode cX12_doesColour 50 = .ok (.aload_n 0, 1) := by decide +kernel
theorem dX12_doesColour_51 : decode cX12_doesColour 51 = .ok (.aload_n 0, 1) := by decide +kernel
theorem dX12_doesColour_52 : decode cX12_doesColour 52 = .ok (.getfield 9, 3) := by decide +kernel
theorem dX12_doesColour_55 : decode cX12_doesColour 55 = .ok (.iconst 0, 1) := by decide +kernel
theorem dX12_doesColour_56 : decode cX12_doesColour 56 = .ok (.dup2, 1) := by decide +kernel
theorem dX12_doesColour_57 : decode cX12_doesColour 57 = .ok (.iaload, 1) := by decide +kernel
theorem dX12_doesColour_58 : decode cX12_doesColour 58 = .ok (.dup_x2, 1) := by decide +kernel
theorem dX12_doesColour_59 : decode cX12_doesColour 59 = .ok (.iconst 1, 1) := by decide +kernel
theorem dX12_doesColour_60 : decode cX12_doesColour 60 = .ok (.iadd, 1) := by decide +kernel
theorem dX12_doesColour_61 : decode cX12_doesColour 61 = .ok (.iastore, 1) := by decide +kernel
theorem dX12_doesColour_62 : decode cX12_doesColour 62 = .ok (.invokevirtual 79, 3) := by decide +kernel
theorem dX12_doesColour_65 : decode cX12_doesColour 65 = .ok (.ireturn, 1) := by decide +kernel
theorem dX12_doesPart_0 : decode cX12_doesPart 0 = .ok (.iload_n 1, 1) := by decide +kernel
theorem dX12_doesPart_1 : decode cX12_doesPart 1 = .ok (.iconst 1, 1) := by decide +kernel
theorem dX12_doesPart_2 : decode cX12_doesPart 2 = .ok (.bipush 50, 2) := by decide +kernel
theorem dX12_doesPart_4 : decode cX12_doesPart 4 = .ok (.invokestatic 64, 3) := by decide +kernel
theorem dX12_doesPart_7 : decode cX12_doesPart 7 = .ok (.ifCond .ne 10, 3) := by decide +kernel
theorem dX12_doesPart_10 : decode cX12_doesPart 10 = .ok (.aload_n 0, 1) := by decide +kernel
theorem dX12_doesPart_11 : decode cX12_doesPart 11 = .ok (.iconst 2, 1) := by decide +kernel
theorem dX12_doesPart_12 : decode cX12_doesPart 12 = .ok (.iconst 0, 1) := by decide +kernel
theorem dX12_doesPart_13 : decode cX12_doesPart 13 = .ok (.invokevirtual 75, 3) := by decide +kernel
theorem dX12_doesPart_16 : decode cX12_doesPart 16 = .ok (.ireturn, 1) := by decide +kernel
theorem dX12_doesPart_17 : decode cX12_doesPart 17 = .ok (.aload_n 0, 1) := by decide +kernel
theorem dX12_doesPart_18 : decode cX12_doesPart 18 = .ok (.getfield 9, 3) := by decide +kernel
theorem dX12_doesPart_21 : decode cX12_doesPart 21 = .ok (.iconst 1, 1) := by decide +kernel
theorem dX12_doesPart_22 : decode cX12_doesPart 22 = .ok (.iaload, 1) := by decide +kernel
theorem dX12_doesPart_23 : decode cX12_doesPart 23 = .ok (.bipush 8, 2) := by decide +kernel
theorem dX12_doesPart_25 : decode cX12_doesPart 25 = .ok (.if_icmp .ne 10, 3) := by decide +kernel
theorem dX12_doesPart_28 : decode cX12_doesPart 28 = .ok (.aload_n 0, 1) := by decide +kernel
theorem dX12_doesPart_29 : decode cX12_doesPart 29 = .ok (.iconst 3, 1) := by decide +kernel
theorem dX12_doesPart_30 : decode cX12_doesPart 30 = .ok (.iconst 0, 1) := by decide +kernel
theorem dX12_doesPart_31 : decode cX12_doesPart 31 = .ok (.invokevirtual 75, 3) := by decide +kernel
theorem dX12_doesPart_34 : decode cX12_doesPart 34 = .ok (.ireturn, 1) := by decide +kernel
theorem dX12_doesPart_35 : decode cX12_doesPart 35 = .ok (.aload_n 0, 1) := by decide +kernel
theorem dX12_doesPart_36 : decode cX12_doesPart 36 = .ok (.getfield 9, 3) := by decide +kernel
theorem dX12_doesPart_39 : decode cX12_doesPart 39 = .ok (.bipush 22, 2) := by decide +kernel
theorem dX12_doesPart_41 : decode cX12_doesPart 41 = .ok (.aload_n 0, 1) := by decide +kernel
theorem dX12_doesPart_42 : decode cX12_doesPart 42 = .ok (.getfield 9, 3) := by decide +kernel
theorem dX12_doesPart_45 : decode cX12_doesPart 45 = .ok (.iconst 1, 1) := by decide +kernel
theorem dX12_doesPart_46 : decode cX12_doesPart 46 = .ok (.iaload, 1) := by decide +kernel
theorem dX12_doesPart_47 : decode cX12_doesPart 47 = .ok (.iadd, 1) := by decide +kernel
theorem dX12_doesPart_48 : decode cX12_doesPart 48 = .ok (.iload_n 1, 1) := by decide +kernel
theorem dX12_doesPart_49 : decode cX12_doesPart 49 = .ok (.iastore, 1) := by decide +kernel
theorem dX12_doesPart_50 : decode cX12_doesPart 50 = .ok (.aload_n 0, 1) := by decide +kernel
theorem dX12_doesPart_51 : decode cX12_doesPart 51 = .ok (.aload_n 0, 1) := by decide +kernel
theorem dX12_doesPart_52 : decode cX12_doesPart 52 = .ok (.getfield 9, 3) := by decide +kernel
theorem dX12_doesPart_55 : decode cX12_doesPart 55 = .ok (.iconst 1, 1) := by decide +kernel
theorem dX12_doesPart_56 : decode cX12_doesPart 56 = .ok (.dup2, 1) := by decide +kernel
theorem dX12_doesPart_57 : decode cX12_doesPart 57 = .ok (.iaload, 1) := by decide +kernel
theorem dX12_doesPart_58 : decode cX12_doesPart 58 = .ok (.dup_x2, 1) := by decide +kernel
theorem dX12_doesPart_59 : decode cX12_doesPart 59 = .ok (.iconst 1, 1) := by decide +kernel
theorem dX12_doesPart_60 : decode cX12_doesPart 60 = .ok (.iadd, 1) := by decide +kernel
theorem dX12_doesPart_61 : decode cX12_doesPart 61 = .ok (.iastore, 1) := by decide +kernel
theorem dX12_doesPart_62 : decode cX12_doesPart 62 = .ok (.invokevirtual 79, 3) := by decide +kernel
theorem dX12_doesPart_65 : decode cX12_doesPart 65 = .ok (.ireturn, 1) := by decide +kernel
theorem dX12_doesFamily_0 : decode cX12_doesFamily 0 = .ok (.aload_n 0, 1) := by decide +kernel
theorem dX12_doesFamily_1 : decode cX12_doesFamily 1 = .ok (.getfield 36, 3) := by decide +kernel
theorem dX12_doesFamily_4 : decode cX12_doesFamily 4 = .ok (.iconst 2, 1) := by decide +kernel
theorem dX12_doesFamily_5 : decode cX12_doesFamily 5 = .ok (.iaload, 1) := by decide +kernel
theorem dX12_doesFamily_6 : decode cX12_doesFamily 6 = .ok (.istore_n 1, 1) := by decide +kernel
theorem dX12_doesFamily_7 : decode cX12_doesFamily 7 = .ok (.aload_n 0, 1) := by decide +kernel
theorem dX12_doesFamily_8 : decode cX12_doesFamily 8 = .ok (.getfield 36, 3) := by decide +kernel
theorem dX12_doesFamily_11 : decode cX12_doesFamily 11 = .ok (.iconst 0, 1) := by decide +kernel
theorem dX12_doesFamily_12 : decode cX12_doesFamily 12 = .ok (.iaload, 1) := by decide +kernel
theorem dX12_doesFamily_13 : decode cX12_doesFamily 13 = .ok (.iconst 1, 1) := by decide +kernel
theorem dX12_doesFamily_14 : decode cX12_doesFamily 14 = .ok (.bipush 99, 2) := by decide +kernel
theorem dX12_doesFamily_16 : decode cX12_doesFamily 16 = .ok (.invokestatic 64, 3) := by decide +kernel
theorem dX12_doesFamily_19 : decode cX12_doesFamily 19 = .ok (.ifCond .eq 23, 3) := by decide +kernel
theorem dX12_doesFamily_22 : decode cX12_doesFamily 22 = .ok (.aload_n 0, 1) := by decide +kernel
theorem dX12_doesFamily_23 : decode cX12_doesFamily 23 = .ok (.getfield 36, 3) := by decide +kernel
theorem dX12_doesFamily_26 : decode cX12_doesFamily 26 = .ok (.iconst 1, 1) := by decide +kernel
theorem dX12_doesFamily_27 : decode cX12_doesFamily 27 = .ok (.iaload, 1) := by decide +kernel
theorem dX12_doesFamily_28 : decode cX12_doesFamily 28 = .ok (.iconst 1, 1) := by decide +kernel
theorem dX12_doesFamily_29 : decode cX12_doesFamily 29 = .ok (.sipush 999, 3) := by decide +kernel
theorem dX12_doesFamily_32 : decode cX12_doesFamily 32 = .ok (.invokestatic 64, 3) := by decide +kernel
theorem dX12_doesFamily_35 : decode cX12_doesFamily 35 = .ok (.ifCond .eq 7, 3) := by decide +kernel
theorem dX12_doesFamily_38 : decode cX12_doesFamily 38 = .ok (.iconst 1, 1) := by decide +kernel
theorem dX12_doesFamily_39 : decode cX12_doesFamily 39 = .ok (.goto 4, 3) := by decide +kernel
theorem dX12_doesFamily_42 : decode cX12_doesFamily 42 = .ok (.iconst 0, 1) := by decide +kernel
theorem dX12_doesFamily_43 : decode cX12_doesFamily 43 = .ok (.istore_n 2, 1) := by decide +kernel
theorem dX12_doesFamily_44 : decode cX12_doesFamily 44 = .ok (.iconst 0, 1) := by decide +kernel
theorem dX12_doesFamily_45 : decode cX12_doesFamily 45 = .ok (.istore_n 3, 1) := by decide +kernel
theorem dX12_doesFamily_46 : decode cX12_doesFamily 46 = .ok (.iload_n 3, 1) := by decide +kernel
theorem dX12_doesFamily_47 : decode cX12_doesFamily 47 = .ok (.iload_n 1, 1) := by decide +kernel
theorem dX12_doesFamily_48 : decode cX12_doesFamily 48 = .ok (.if_icmp .ge 27, 3) := by decide +kernel
theorem dX12_doesFamily_51 : decode cX12_doesFamily 51 = .ok (.iload_n 2, 1) := by decide +kernel
theorem dX12_doesFamily_52 : decode cX12_doesFamily 52 = .ok (.aload_n 0, 1) := by decide +kernel
theorem dX12_doesFamily_53 : decode cX12_doesFamily 53 = .ok (.getfield 36, 3) := by decide +kernel
theorem dX12_doesFamily_56 : decode cX12_doesFamily 56 = .ok (.bipush 6, 2) := by decide +kernel
theorem dX12_doesFamily_58 : decode cX12_doesFamily 58 = .ok (.iload_n 3, 1) := by decide +kernel
theorem dX12_doesFamily_59 : decode cX12_doesFamily 59 = .ok (.iadd, 1) := by decide +kernel
theorem dX12_doesFamily_60 : decode cX12_doesFamily 60 = .ok (.iaload, 1) := by decide +kernel
theorem dX12_doesFamily_61 : decode cX12_doesFamily 61 = .ok (.iconst 1, 1) := by decide +kernel
theorem dX12_doesFamily_62 : decode cX12_doesFamily 62 = .ok (.bipush 9, 2) := by decide +kernel
theorem dX12_doesFamily_64 : decode cX12_doesFamily 64 = .ok (.invokestatic 64, 3) := by decide +kernel
theorem dX12_doesFamily_67 : decode cX12_doesFamily 67 = .ok (.iand, 1) := by decide +kernel
theorem dX12_doesFamily_68 : decode cX12_doesFamily 68 = .ok (.istore_n 2, 1) := by decide +kernel
theorem dX12_doesFamily_69 : decode cX12_doesFamily 69 = .ok (.iinc 3 1, 3) := by decide +kernel
theorem dX12_doesFamily_72 : decode cX12_doesFamily 72 = .ok (.goto (-26), 3) := by decide +kernel
theorem dX12_doesFamily_75 : decode cX12_doesFamily 75 = .ok (.iload_n 2, 1) := by decide +kernel
theorem dX12_doesFamily_76 : decode cX12_doesFamily 76 = .ok (.ifCond .ne 10, 3) := by decide +kernel
theorem dX12_doesFamily_79 : decode cX12_doesFamily 79 = .ok (.aload_n 0, 1) := by decide +kernel
theorem dX12_doesFamily_80 : decode cX12_doesFamily 80 = .ok (.iconst 2, 1) := by decide +kernel
theorem dX12_doesFamily_81 : decode cX12_doesFamily 81 = .ok (.iconst 0, 1) := by decide +kernel
theorem dX12_doesFamily_82 : decode cX12_doesFamily 82 = .ok (.invokevirtual 75, 3) := by decide +kernel
theorem dX12_doesFamily_85 : decode cX12_doesFamily 85 = .ok (.ireturn, 1) := by decide +kernel
theorem dX12_doesFamily_86 : decode cX12_doesFamily 86 = .ok (.iconst 0, 1) := by decide +kernel
theorem dX12_doesFamily_87 : decode cX12_doesFamily 87 = .ok (.istore_n 3, 1) := by decide +kernel
theorem dX12_doesFamily_88 : decode cX12_doesFamily 88 = .ok (.iload_n 3, 1) := by decide +kernel
theorem dX12_doesFamily_89 : decode cX12_doesFamily 89 = .ok (.iload_n 1, 1) := by decide +kernel
theorem dX12_doesFamily_90 : decode cX12_doesFamily 90 = .ok (.if_icmp .ge 24, 3) := by decide +kernel
theorem dX12_doesFamily_93 : decode cX12_doesFamily 93 = .ok (.iload_n 2, 1) := by decide +kernel
theorem dX12_doesFamily_94 : decode cX12_doesFamily 94 = .ok (.aload_n 0, 1) := by decide +kernel
theorem dX12_doesFamily_95 : decode cX12_doesFamily 95 = .ok (.aload_n 0, 1) := by decide +kernel
theorem dX12_doesFamily_96 : decode cX12_doesFamily 96 = .ok (.getfield 36, 3) := by decide +kernel
theorem dX12_doesFamily_99 : decode cX12_doesFamily 99 = .ok (.iconst 3, 1) := by decide +kernel
theorem dX12_doesFamily_100 : decode cX12_doesFamily 100 = .ok (.iload_n 3, 1) := by decide +kernel
theorem dX12_doesFamily_101 : decode cX12_doesFamily 101 = .ok (.iadd, 1) := by decide +kernel
theorem dX12_doesFamily_102 : decode cX12_doesFamily 102 = .ok (.iaload, 1) := by decide +kernel
theorem dX12_doesFamily_103 : decode cX12_doesFamily 103 = .ok (.invokevirtual 83, 3) := by decide +kernel
theorem dX12_doesFamily_106 : decode cX12_doesFamily 106 = .ok (.iand, 1) := by decide +kernel
theorem dX12_doesFamily_107 : decode cX12_doesFamily 107 = .ok (.istore_n 2, 1) := by decide +kernel
theorem dX12_doesFamily_108 : decode cX12_doesFamily 108 = .ok (.iinc 3 1, 3) := by decide +kernel
theorem dX12_doesFamily_111 : decode cX12_doesFamily 111 = .ok (.goto (-23), 3) := by decide +kernel
theorem dX12_doesFamily_114 : decode cX12_doesFamily 114 = .ok (.iload_n 2, 1) := by decide +kernel
theorem dX12_doesFamily_115 : decode cX12_doesFamily 115 = .ok (.ifCond .ne 10, 3) := by decide +kernel
theorem dX12_doesFamily_118 : decode cX12_doesFamily 118 = .ok (.aload_n 0, 1) := by decide +kernel
theorem dX12_doesFamily_119 : decode cX12_doesFamily 119 = .ok (.iconst 1, 1) := by decide +kernel
theorem dX12_doesFamily_120 : decode cX12_doesFamily 120 = .ok (.iconst 0, 1) := by decide +kernel
theorem dX12_doesFamily_121 : decode cX12_doesFamily 121 = .ok (.invokevirtual 75, 3) := by decide +kernel
theorem dX12_doesFamily_124 : decode cX12_doesFamily 124 = .ok (.ireturn, 1) := by decide +kernel
theorem dX12_doesFamily_125 : decode cX12_doesFamily 125 = .ok (.iconst 0, 1) := by decide +kernel
theorem dX12_doesFamily_126 : decode cX12_doesFamily 126 = .ok (.istore_n 3, 1) := by decide +kernel
theorem dX12_doesFamily_127 : decode cX12_doesFamily 127 = .ok (.iload_n 3, 1) := by decide +kernel
theorem dX12_doesFamily_128 : decode cX12_doesFamily 128 = .ok (.iload_n 1, 1) := by decide +kernel
theorem dX12_doesFamily_129 : decode cX12_doesFamily 129 = .ok (.if_icmp .ge 59, 3) := by decide +kernel
theorem dX12_doesFamily_132 : decode cX12_doesFamily 132 = .ok (.iconst 0, 1) := by decide +kernel
theorem dX12_doesFamily_133 : decode cX12_doesFamily 133 = .ok (.istore 4, 2) := by decide +kernel
theorem dX12_doesFamily_135 : decode cX12_doesFamily 135 = .ok (.iload 4, 2) := by decide +kernel
theorem dX12_doesFamily_137 : decode cX12_doesFamily 137 = .ok (.iload_n 3, 1) := by decide +kernel
theorem dX12_doesFamily_138 : decode cX12_doesFamily 138 = .ok (.if_icmp .ge 44, 3) := by decide +kernel
theorem dX12_doesFamily_141 : decode cX12_doesFamily 141 = .ok (.aload_n 0, 1) := by decide +kernel
theorem dX12_doesFamily_142 : decode cX12_doesFamily 142 = .ok (.getfield 36, 3) := by decide +kernel
theorem dX12_doesFamily_145 : decode cX12_doesFamily 145 = .ok (.iconst 3, 1) := by decide +kernel
theorem dX12_doesFamily_146 : decode cX12_doesFamily 146 = .ok (.iload_n 3, 1) := by decide +kernel
theorem dX12_doesFamily_147 : decode cX12_doesFamily 147 = .ok (.iadd, 1) := by decide +kernel
theorem dX12_doesFamily_148 : decode cX12_doesFamily 148 = .ok (.iaload, 1) := by decide +kernel
theorem dX12_doesFamily_149 : decode cX12_doesFamily 149 = .ok (.aload_n 0, 1) := by decide +kernel
theorem dX12_doesFamily_150 : decode cX12_doesFamily 150 = .ok (.getfield 36, 3) := by decide +kernel
theorem dX12_doesFamily_153 : decode cX12_doesFamily 153 = .ok (.iconst 3, 1) := by decide +kernel
theorem dX12_doesFamily_154 : decode cX12_doesFamily 154 = .ok (.iload 4, 2) := by decide +kernel
theorem dX12_doesFamily_156 : decode cX12_doesFamily 156 = .ok (.iadd, 1) := by decide +kernel
theorem dX12_doesFamily_157 : decode cX12_doesFamily 157 = .ok (.iaload, 1) := by decide +kernel
theorem dX12_doesFamily_158 : decode cX12_doesFamily 158 = .ok (.if_icmp .ne 18, 3) := by decide +kernel
theorem dX12_doesFamily_161 : decode cX12_doesFamily 161 = .ok (.aload_n 0, 1) := by decide +kernel
theorem dX12_doesFamily_162 : decode cX12_doesFamily 162 = .ok (.bipush 14, 2) := by decide +kernel
theorem dX12_doesFamily_164 : decode cX12_doesFamily 164 = .ok (.aload_n 0, 1) := by decide +kernel
theorem dX12_doesFamily_165 : decode cX12_doesFamily 165 = .ok (.getfield 36, 3) := by decide +kernel
theorem dX12_doesFamily_168 : decode cX12_doesFamily 168 = .ok (.iconst 3, 1) := by decide +kernel
theorem dX12_doesFamily_169 : decode cX12_doesFamily 169 = .ok (.iload_n 3, 1) := by decide +kernel
theorem dX12_doesFamily_170 : decode cX12_doesFamily 170 = .ok (.iadd, 1) := by decide +kernel
theorem dX12_doesFamily_171 : decode cX12_doesFamily 171 = .ok (.iaload, 1) := by decide +kernel
theorem dX12_doesFamily_172 : decode cX12_doesFamily 172 = .ok (.invokevirtual 75, 3) := by decide +kernel
theorem dX12_doesFamily_175 : decode cX12_doesFamily 175 = .ok (.ireturn, 1) := by decide +kernel
theorem dX12_doesFamily_176 : decode cX12_doesFamily 176 = .ok (.iinc 4 1, 3) := by decide +kernel
theorem dX12_doesFamily_179 : decode cX12_doesFamily 179 = .ok (.goto (-44), 3) := by decide +kernel
theorem dX12_doesFamily_182 : decode cX12_doesFamily 182 = .ok (.iinc 3 1, 3) := by decide +kernel
theorem dX12_doesFamily_185 : decode cX12_doesFamily 185 = .ok (.goto (-58), 3) := by decide +kernel
theorem dX12_doesFamily_188 : decode cX12_doesFamily 188 = .ok (.aload_n 0, 1) := by decide +kernel
theorem dX12_doesFamily_189 : decode cX12_doesFamily 189 = .ok (.getfield 9, 3) := by decide +kernel
theorem dX12_doesFamily_192 : decode cX12_doesFamily 192 = .ok (.iconst 2, 1) := by decide +kernel
theorem dX12_doesFamily_193 : decode cX12_doesFamily 193 = .ok (.iaload, 1) := by decide +kernel
theorem dX12_doesFamily_194 : decode cX12_doesFamily 194 = .ok (.bipush 6, 2) := by decide +kernel
theorem dX12_doesFamily_196 : decode cX12_doesFamily 196 = .ok (.if_icmp .ne 10, 3) := by decide +kernel
theorem dX12_doesFamily_199 : decode cX12_doesFamily 199 = .ok (.aload_n 0, 1) := by decide +kernel
theorem dX12_doesFamily_200 : decode cX12_doesFamily 200 = .ok (.iconst 3, 1) := by decide +kernel
theorem dX12_doesFamily_201 : decode cX12_doesFamily 201 = .ok (.iconst 0, 1) := by decide +kernel
theorem dX12_doesFamily_202 : decode cX12_doesFamily 202 = .ok (.invokevirtual 75, 3) := by decide +kernel
theorem dX12_doesFamily_205 : decode cX12_doesFamily 205 = .ok (.ireturn, 1) := by decide +kernel
theorem dX12_doesFamily_206 : decode cX12_doesFamily 206 = .ok (.iconst 0, 1) := by decide +kernel
theorem dX12_doesFamily_207 : decode cX12_doesFamily 207 = .ok (.istore_n 3, 1) := by decide +kernel
theorem dX12_doesFamily_208 : decode cX12_doesFamily 208 = .ok (.iload_n 3, 1) := by decide +kernel
theorem dX12_doesFamily_209 : decode cX12_doesFamily 209 = .ok (.bipush 9, 2) := by decide +kernel
theorem dX12_doesFamily_211 : decode cX12_doesFamily 211 = .ok (.if_icmp .ge 34, 3) := by decide +kernel
theorem dX12_doesFamily_214 : decode cX12_doesFamily 214 = .ok (.aload_n 0, 1) := by decide +kernel
theorem dX12_doesFamily_215 : decode cX12_doesFamily 215 = .ok (.getfield 9, 3) := by decide +kernel
theorem dX12_doesFamily_218 : decode cX12_doesFamily 218 = .ok (.bipush 46, 2) := by decide +kernel
theorem dX12_doesFamily_220 : decode cX12_doesFamily 220 = .ok (.bipush 9, 2) := by decide +kernel
theorem dX12_doesFamily_222 : decode cX12_doesFamily 222 = .ok (.aload_n 0, 1) := by decide +kernel
theorem dX12_doesFamily_223 : decode cX12_doesFamily 223 = .ok (.getfield 9, 3) := by decide +kernel
theorem dX12_doesFamily_226 : decode cX12_doesFamily 226 = .ok (.iconst 2, 1) := by decide +kernel
theorem dX12_doesFamily_227 : decode cX12_doesFamily 227 = .ok (.iaload, 1) := by decide +kernel
theorem dX12_doesFamily_228 : decode cX12_doesFamily 228 = .ok (.imul, 1) := by decide +kernel
theorem dX12_doesFamily_229 : decode cX12_doesFamily 229 = .ok (.iadd, 1) := by decide +kernel
theorem dX12_doesFamily_230 : decode cX12_doesFamily 230 = .ok (.iload_n 3, 1) := by decide +kernel
theorem dX12_doesFamily_231 : decode cX12_doesFamily 231 = .ok (.iadd, 1) := by decide +kernel
theorem dX12_doesFamily_232 : decode cX12_doesFamily 232 = .ok (.aload_n 0, 1) := by decide +kernel
theorem dX12_doesFamily_233 : decode cX12_doesFamily 233 = .ok (.getfield 36, 3) := by decide +kernel
theorem dX12_doesFamily_236 : decode cX12_doesFamily 236 = .ok (.iload_n 3, 1) := by decide +kernel
theorem dX12_doesFamily_237 : decode cX12_doesFamily 237 = .ok (.iaload, 1) := by decide +kernel
theorem dX12_doesFamily_238 : decode cX12_doesFamily 238 = .ok (.iastore, 1) := by decide +kernel
theorem dX12_doesFamily_239 : decode cX12_doesFamily 239 = .ok (.iinc 3 1, 3) := by decide +kernel
theorem dX12_doesFamily_242 : decode cX12_doesFamily 242 = .ok (.goto (-34), 3) := by decide +kernel
theorem dX12_doesFamily_245 : decode cX12_doesFamily 245 = .ok (.aload_n 0, 1) := by decide +kernel
theorem dX12_doesFamily_246 : decode cX12_doesFamily 246 = .ok (.aload_n 0, 1) := by decide +kernel
theorem dX12_doesFamily_247 : decode cX12_doesFamily 247 = .ok (.getfield 9, 3) := by decide +kernel
theorem dX12_doesFamily_250 : decode cX12_doesFamily 250 = .ok (.iconst 2, 1) := by decide +kernel
theorem dX12_doesFamily_251 : decode cX12_doesFamily 251 = .ok (.dup2, 1) := by decide +kernel
theorem dX12_doesFamily_252 : decode cX12_doesFamily 252 = .ok (.iaload, 1) := by decide +kernel
theorem dX12_doesFamily_253 : decode cX12_doesFamily 253 = .ok (.dup_x2, 1) := by decide +kernel
theorem dX12_doesFamily_254 : decode cX12_doesFamily 254 = .ok (.iconst 1, 1) := by decide +kernel
theorem dX12_doesFamily_255 : decode cX12_doesFamily 255 = .ok (.iadd, 1) := by decide +kernel
theorem dX12_doesFamily_256 : decode cX12_doesFamily 256 = .ok (.iastore, 1) := by decide +kernel
theorem dX12_doesFamily_257 : decode cX12_doesFamily 257 = .ok (.invokevirtual 79, 3) := by decide +kernel
theorem dX12_doesFamily_260 : decode cX12_doesFamily 260 = .ok (.ireturn, 1) := by decide +kernel
theorem dX12_doesMount_0 : decode cX12_doesMount 0 = .ok (.aload_n 0, 1) := by decide +kernel
theorem dX12_doesMount_1 : decode cX12_doesMount 1 = .ok (.iload_n 1, 1) := by decide +kernel
theorem dX12_doesMount_2 : decode cX12_doesMount 2 = .ok (.invokevirtual 86, 3) := by decide +kernel
theorem dX12_doesMount_5 : decode cX12_doesMount 5 = .ok (.ifCond .ne 10, 3) := by decide +kernel
theorem dX12_doesMount_8 : decode cX12_doesMount 8 = .ok (.aload_n 0, 1) := by decide +kernel
theorem dX12_doesMount_9 : decode cX12_doesMount 9 = .ok (.iconst 1, 1) := by decide +kernel
theorem dX12_doesMount_10 : decode cX12_doesMount 10 = .ok (.iconst 0, 1) := by decide +kernel
theorem dX12_doesMount_11 : decode cX12_doesMount 11 = .ok (.invokevirtual 75, 3) := by decide +kernel
theorem dX12_doesMount_14 : decode cX12_doesMount 14 = .ok (.ireturn, 1) := by decide +kernel
theorem dX12_doesMount_15 : decode cX12_doesMount 15 = .ok (.aload_n 0, 1) := by decide +kernel
theorem dX12_doesMount_16 : decode cX12_doesMount 16 = .ok (.getfield 9, 3) := by decide +kernel
theorem dX12_doesMount_19 : decode cX12_doesMount 19 = .ok (.iconst 4, 1) := by decide +kernel
theorem dX12_doesMount_20 : decode cX12_doesMount 20 = .ok (.iaload, 1) := by decide +kernel
theorem dX12_doesMount_21 : decode cX12_doesMount 21 = .ok (.iload_n 1, 1) := by decide +kernel
theorem dX12_doesMount_22 : decode cX12_doesMount 22 = .ok (.if_icmp .ne 10, 3) := by decide +kernel
theorem dX12_doesMount_25 : decode cX12_doesMount 25 = .ok (.aload_n 0, 1) := by decide +kernel
theorem dX12_doesMount_26 : decode cX12_doesMount 26 = .ok (.iconst 4, 1) := by decide +kernel
theorem dX12_doesMount_27 : decode cX12_doesMount 27 = .ok (.iconst 0, 1) := by decide +kernel
theorem dX12_doesMount_28 : decode cX12_doesMount 28 = .ok (.invokevirtual 75, 3) := by decide +kernel
theorem dX12_doesMount_31 : decode cX12_doesMount 31 = .ok (.ireturn, 1) := by decide +kernel
theorem dX12_doesMount_32 : decode cX12_doesMount 32 = .ok (.aload_n 0, 1) := by decide +kernel
theorem dX12_doesMount_33 : decode cX12_doesMount 33 = .ok (.getfield 9, 3) := by decide +kernel
theorem dX12_doesMount_36 : decode cX12_doesMount 36 = .ok (.iconst 4, 1) := by decide +kernel
theorem dX12_doesMount_37 : decode cX12_doesMount 37 = .ok (.iload_n 1, 1) := by decide +kernel
theorem dX12_doesMount_38 : decode cX12_doesMount 38 = .ok (.iastore, 1) := by decide +kernel
theorem dX12_doesMount_39 : decode cX12_doesMount 39 = .ok (.aload_n 0, 1) := by decide +kernel
theorem dX12_doesMount_40 : decode cX12_doesMount 40 = .ok (.aload_n 0, 1) := by decide +kernel
theorem dX12_doesMount_41 : decode cX12_doesMount 41 = .ok (.aload_n 0, 1) := by decide +kernel
theorem dX12_doesMount_42 : decode cX12_doesMount 42 = .ok (.getfield 9, 3) := by decide +kernel
theorem dX12_doesMount_45 : decode cX12_doesMount 45 = .ok (.bipush 15, 2) := by decide +kernel
theorem dX12_doesMount_47 : decode cX12_doesMount 47 = .ok (.iaload, 1) := by decide +kernel
theorem dX12_doesMount_48 : decode cX12_doesMount 48 = .ok (.invokevirtual 89, 3) := by decide +kernel
theorem dX12_doesMount_51 : decode cX12_doesMount 51 = .ok (.invokevirtual 79, 3) := by decide +kernel
theorem dX12_doesMount_54 : decode cX12_doesMount 54 = .ok (.ireturn, 1) := by decide +kernel
theorem dX12_doesLoad_0 : decode cX12_doesLoad 0 = .ok (.iload_n 1, 1) := by decide +kernel
theorem dX12_doesLoad_1 : decode cX12_doesLoad 1 = .ok (.invokestatic 92, 3) := by decide +kernel
theorem dX12_doesLoad_4 : decode cX12_doesLoad 4 = .ok (.ifCond .eq 11, 3) := by decide +kernel
theorem dX12_doesLoad_7 : decode cX12_doesLoad 7 = .ok (.aload_n 0, 1) := by decide +kernel
theorem dX12_doesLoad_8 : decode cX12_doesLoad 8 = .ok (.iload_n 2, 1) := by decide +kernel
theorem dX12_doesLoad_9 : decode cX12_doesLoad 9 = .ok (.invokevirtual 95, 3) := by decide +kernel
theorem dX12_doesLoad_12 : decode cX12_doesLoad 12 = .ok (.ifCond .ne 10, 3) := by decide +kernel
theorem dX12_doesLoad_15 : decode cX12_doesLoad 15 = .ok (.aload_n 0, 1) := by decide +kernel
theorem dX12_doesLoad_16 : decode cX12_doesLoad 16 = .ok (.iconst 1, 1) := by decide +kernel
theorem dX12_doesLoad_17 : decode cX12_doesLoad 17 = .ok (.iconst 0, 1) := by decide +kernel
theorem dX12_doesLoad_18 : decode cX12_doesLoad 18 = .ok (.invokevirtual 75, 3) := by decide +kernel
theorem dX12_doesLoad_21 : decode cX12_doesLoad 21 = .ok (.ireturn, 1) := by decide +kernel
theorem dX12_doesLoad_22 : decode cX12_doesLoad 22 = .ok (.iload_n 3, 1) := by decide +kernel
theorem dX12_doesLoad_23 : decode cX12_doesLoad 23 = .ok (.iconst 1, 1) := by decide +kernel
theorem dX12_doesLoad_24 : decode cX12_doesLoad 24 = .ok (.ldc 98, 2) := by decide +kernel
theorem dX12_doesLoad_26 : decode cX12_doesLoad 26 = .ok (.invokestatic 64, 3) := by decide +kernel
theorem dX12_doesLoad_29 : decode cX12_doesLoad 29 = .ok (.ifCond .ne 10, 3) := by decide +kernel
theorem dX12_doesLoad_32 : decode cX12_doesLoad 32 = .ok (.aload_n 0, 1) := by decide +kernel
theorem dX12_doesLoad_33 : decode cX12_doesLoad 33 = .ok (.iconst 2, 1) := by decide +kernel
theorem dX12_doesLoad_34 : decode cX12_doesLoad 34 = .ok (.iconst 0, 1) := by decide +kernel
theorem dX12_doesLoad_35 : decode cX12_doesLoad 35 = .ok (.invokevirtual 75, 3) := by decide +kernel
theorem dX12_doesLoad_38 : decode cX12_doesLoad 38 = .ok (.ireturn, 1) := by decide +kernel
theorem dX12_doesLoad_39 : decode cX12_doesLoad 39 = .ok (.bipush 100, 2) := by decide +kernel
theorem dX12_doesLoad_41 : decode cX12_doesLoad 41 = .ok (.iconst 3, 1) := by decide +kernel
theorem dX12_doesLoad_42 : decode cX12_doesLoad 42 = .ok (.iload_n 1, 1) := by decide +kernel
theorem dX12_doesLoad_43 : decode cX12_doesLoad 43 = .ok (.imul, 1) := by decide +kernel
theorem dX12_doesLoad_44 : decode cX12_doesLoad 44 = .ok (.iadd, 1) := by decide +kernel
theorem dX12_doesLoad_45 : decode cX12_doesLoad 45 = .ok (.istore 4, 2) := by decide +kernel
theorem dX12_doesLoad_47 : decode cX12_doesLoad 47 = .ok (.aload_n 0, 1) := by decide +kernel
theorem dX12_doesLoad_48 : decode cX12_doesLoad 48 = .ok (.getfield 9, 3) := by decide +kernel
theorem dX12_doesLoad_51 : decode cX12_doesLoad 51 = .ok (.iload 4, 2) := by decide +kernel
theorem dX12_doesLoad_53 : decode cX12_doesLoad 53 = .ok (.iaload, 1) := by decide +kernel
theorem dX12_doesLoad_54 : decode cX12_doesLoad 54 = .ok (.ifCond .lt 28, 3) := by decide +kernel
theorem dX12_doesLoad_57 : decode cX12_doesLoad 57 = .ok (.aload_n 0, 1) := by decide +kernel
theorem dX12_doesLoad_58 : decode cX12_doesLoad 58 = .ok (.getfield 9, 3) := by decide +kernel
theorem dX12_doesLoad_61 : decode cX12_doesLoad 61 = .ok (.iload 4, 2) := by decide +kernel
theorem dX12_doesLoad_63 : decode cX12_doesLoad 63 = .ok (.iaload, 1) := by decide +kernel
theorem dX12_doesLoad_64 : decode cX12_doesLoad 64 = .ok (.iload_n 2, 1) := by decide +kernel
theorem dX12_doesLoad_65 : decode cX12_doesLoad 65 = .ok (.if_icmp .eq 17, 3) := by decide +kernel
theorem dX12_doesLoad_68 : decode cX12_doesLoad 68 = .ok (.aload_n 0, 1) := by decide +kernel
theorem dX12_doesLoad_69 : decode cX12_doesLoad 69 = .ok (.bipush 6, 2) := by decide +kernel
theorem dX12_doesLoad_71 : decode cX12_doesLoad 71 = .ok (.aload_n 0, 1) := by decide +kernel
theorem dX12_doesLoad_72 : decode cX12_doesLoad 72 = .ok (.getfield 9, 3) := by decide +kernel
theorem dX12_doesLoad_75 : decode cX12_doesLoad 75 = .ok (.iload 4, 2) := by decide +kernel
theorem dX12_doesLoad_77 : decode cX12_doesLoad 77 = .ok (.iaload, 1) := by decide +kernel
theorem dX12_doesLoad_78 : decode cX12_doesLoad 78 = .ok (.invokevirtual 75, 3) := by decide +kernel
theorem dX12_doesLoad_81 : decode cX12_doesLoad 81 = .ok (.ireturn, 1) := by decide +kernel
theorem dX12_doesLoad_82 : decode cX12_doesLoad 82 = .ok (.aload_n 0, 1) := by decide +kernel
theorem dX12_doesLoad_83 : decode cX12_doesLoad 83 = .ok (.getfield 9, 3) := by decide +kernel
theorem dX12_doesLoad_86 : decode cX12_doesLoad 86 = .ok (.iload 4, 2) := by decide +kernel
theorem dX12_doesLoad_88 : decode cX12_doesLoad 88 = .ok (.iconst 1, 1) := by decide +kernel
theorem dX12_doesLoad_89 : decode cX12_doesLoad 89 = .ok (.iadd, 1) := by decide +kernel
theorem dX12_doesLoad_90 : decode cX12_doesLoad 90 = .ok (.iaload, 1) := by decide +kernel
theorem dX12_doesLoad_91 : decode cX12_doesLoad 91 = .ok (.iload_n 3, 1) := by decide +kernel
theorem dX12_doesLoad_92 : decode cX12_doesLoad 92 = .ok (.iadd, 1) := by decide +kernel
theorem dX12_doesLoad_93 : decode cX12_doesLoad 93 = .ok (.ldc 98, 2) := by decide +kernel
theorem dX12_doesLoad_95 : decode cX12_doesLoad 95 = .ok (.if_icmp .le 11, 3) := by decide +kernel
theorem dX12_doesLoad_98 : decode cX12_doesLoad 98 = .ok (.aload_n 0, 1) := by decide +kernel
theorem dX12_doesLoad_99 : decode cX12_doesLoad 99 = .ok (.bipush 7, 2) := by decide +kernel
theorem dX12_doesLoad_101 : decode cX12_doesLoad 101 = .ok (.iconst 0, 1) := by decide +kernel
theorem dX12_doesLoad_102 : decode cX12_doesLoad 102 = .ok (.invokevirtual 75, 3) := by decide +kernel
theorem dX12_doesLoad_105 : decode cX12_doesLoad 105 = .ok (.ireturn, 1) := by decide +kernel
theorem dX12_doesLoad_106 : decode cX12_doesLoad 106 = .ok (.aload_n 0, 1) := by decide +kernel
theorem dX12_doesLoad_107 : decode cX12_doesLoad 107 = .ok (.getfield 9, 3) := by decide +kernel
theorem dX12_doesLoad_110 : decode cX12_doesLoad 110 = .ok (.iload 4, 2) := by decide +kernel
theorem dX12_doesLoad_112 : decode cX12_doesLoad 112 = .ok (.iload_n 2, 1) := by decide +kernel
theorem dX12_doesLoad_113 : decode cX12_doesLoad 113 = .ok (.iastore, 1) := by decide +kernel
theorem dX12_doesLoad_114 : decode cX12_doesLoad 114 = .ok (.aload_n 0, 1) := by decide +kernel
theorem dX12_doesLoad_115 : decode cX12_doesLoad 115 = .ok (.getfield 9, 3) := by decide +kernel
theorem dX12_doesLoad_118 : decode cX12_doesLoad 118 = .ok (.iload 4, 2) := by decide +kernel
theorem dX12_doesLoad_120 : decode cX12_doesLoad 120 = .ok (.iconst 1, 1) := by decide +kernel
theorem dX12_doesLoad_121 : decode cX12_doesLoad 121 = .ok (.iadd, 1) := by decide +kernel
theorem dX12_doesLoad_122 : decode cX12_doesLoad 122 = .ok (.dup2, 1) := by decide +kernel
theorem dX12_doesLoad_123 : decode cX12_doesLoad 123 = .ok (.iaload, 1) := by decide +kernel
theorem dX12_doesLoad_124 : decode cX12_doesLoad 124 = .ok (.iload_n 3, 1) := by decide +kernel
theorem dX12_doesLoad_125 : decode cX12_doesLoad 125 = .ok (.iadd, 1) := by decide +kernel
theorem dX12_doesLoad_126 : decode cX12_doesLoad 126 = .ok (.iastore, 1) := by decide +kernel
theorem dX12_doesLoad_127 : decode cX12_doesLoad 127 = .ok (.aload_n 0, 1) := by decide +kernel
theorem dX12_doesLoad_128 : decode cX12_doesLoad 128 = .ok (.getfield 9, 3) := by decide +kernel
theorem dX12_doesLoad_131 : decode cX12_doesLoad 131 = .ok (.iload 4, 2) := by decide +kernel
theorem dX12_doesLoad_133 : decode cX12_doesLoad 133 = .ok (.iconst 2, 1) := by decide +kernel
theorem dX12_doesLoad_134 : decode cX12_doesLoad 134 = .ok (.iadd, 1) := by decide +kernel
theorem dX12_doesLoad_135 : decode cX12_doesLoad 135 = .ok (.iconst 0, 1) := by decide +kernel
theorem dX12_doesLoad_136 : decode cX12_doesLoad 136 = .ok (.iastore, 1) := by decide +kernel
theorem dX12_doesLoad_137 : decode cX12_doesLoad 137 = .ok (.aload_n 0, 1) := by decide +kernel
theorem dX12_doesLoad_138 : decode cX12_doesLoad 138 = .ok (.aload_n 0, 1) := by decide +kernel
theorem dX12_doesLoad_139 : decode cX12_doesLoad 139 = .ok (.getfield 9, 3) := by decide +kernel
theorem dX12_doesLoad_142 : decode cX12_doesLoad 142 = .ok (.iload 4, 2) := by decide +kernel
theorem dX12_doesLoad_144 : decode cX12_doesLoad 144 = .ok (.iconst 1, 1) := by decide +kernel
theorem dX12_doesLoad_145 : decode cX12_doesLoad 145 = .ok (.iadd, 1) := by decide +kernel
theorem dX12_doesLoad_146 : decode cX12_doesLoad 146 = .ok (.iaload, 1) := by decide +kernel
theorem dX12_doesLoad_147 : decode cX12_doesLoad 147 = .ok (.invokevirtual 79, 3) := by decide +kernel
theorem dX12_doesLoad_150 : decode cX12_doesLoad 150 = .ok (.ireturn, 1) := by decide +kernel
theorem dX12_becomesEmpty_0 : decode cX12_becomesEmpty 0 = .ok (.aload_n 0, 1) := by decide +kernel
theorem dX12_becomesEmpty_1 : decode cX12_becomesEmpty 1 = .ok (.getfield 9, 3) := by decide +kernel
theorem dX12_becomesEmpty_4 : decode cX12_becomesEmpty 4 = .ok (.iload_n 1, 1) := by decide +kernel
theorem dX12_becomesEmpty_5 : decode cX12_becomesEmpty 5 = .ok (.iconst (-1), 1) := by decide +kernel
theorem dX12_becomesEmpty_6 : decode cX12_becomesEmpty 6 = .ok (.iastore, 1) := by decide +kernel
theorem dX12_becomesEmpty_7 : decode cX12_becomesEmpty 7 = .ok (.aload_n 0, 1) := by decide +kernel
theorem dX12_becomesEmpty_8 : decode cX12_becomesEmpty 8 = .ok (.getfield 9, 3) := by decide +kernel
theorem dX12_becomesEmpty_11 : decode cX12_becomesEmpty 11 = .ok (.iload_n 1, 1) := by decide +kernel
theorem dX12_becomesEmpty_12 : decode cX12_becomesEmpty 12 = .ok (.iconst 1, 1) := by decide +kernel
theorem dX12_becomesEmpty_13 : decode cX12_becomesEmpty 13 = .ok (.iadd, 1) := by decide +kernel
theorem dX12_becomesEmpty_14 : decode cX12_becomesEmpty 14 = .ok (.iconst 0, 1) := by decide +kernel
theorem dX12_becomesEmpty_15 : decode cX12_becomesEmpty 15 = .ok (.iastore, 1) := by decide +kernel
theorem dX12_becomesEmpty_16 : decode cX12_becomesEmpty 16 = .ok (.aload_n 0, 1) := by decide +kernel
theorem dX12_becomesEmpty_17 : decode cX12_becomesEmpty 17 = .ok (.getfield 9, 3) := by decide +kernel
theorem dX12_becomesEmpty_20 : decode cX12_becomesEmpty 20 = .ok (.iload_n 1, 1) := by decide +kernel
theorem dX12_becomesEmpty_21 : decode cX12_becomesEmpty 21 = .ok (.iconst 2, 1) := by decide +kernel
theorem dX12_becomesEmpty_22 : decode cX12_becomesEmpty 22 = .ok (.iadd, 1) := by decide +kernel
theorem dX12_becomesEmpty_23 : decode cX12_becomesEmpty 23 = .ok (.iconst 0, 1) := by decide +kernel
theorem dX12_becomesEmpty_24 : decode cX12_becomesEmpty 24 = .ok (.iastore, 1) := by decide +kernel
theorem dX12_becomesEmpty_25 : decode cX12_becomesEmpty 25 = .ok (.return_, 1) := by decide +kernel
theorem dX12_doesEmpty_0 : decode cX12_doesEmpty 0 = .ok (.iload_n 1, 1) := by decide +kernel
theorem dX12_doesEmpty_1 : decode cX12_doesEmpty 1 = .ok (.invokestatic 92, 3) := by decide +kernel
theorem dX12_doesEmpty_4 : decode cX12_doesEmpty 4 = .ok (.ifCond .ne 10, 3) := by decide +kernel
theorem dX12_doesEmpty_7 : decode cX12_doesEmpty 7 = .ok (.aload_n 0, 1) := by decide +kernel
theorem dX12_doesEmpty_8 : decode cX12_doesEmpty 8 = .ok (.iconst 1, 1) := by decide +kernel
theorem dX12_doesEmpty_9 : decode cX12_doesEmpty 9 = .ok (.iconst 0, 1) := by decide +kernel
theorem dX12_doesEmpty_10 : decode cX12_doesEmpty 10 = .ok (.invokevirtual 75, 3) := by decide +kernel
theorem dX12_doesEmpty_13 : decode cX12_doesEmpty 13 = .ok (.ireturn, 1) := by decide +kernel
theorem dX12_doesEmpty_14 : decode cX12_doesEmpty 14 = .ok (.bipush 100, 2) := by decide +kernel
theorem dX12_doesEmpty_16 : decode cX12_doesEmpty 16 = .ok (.iconst 3, 1) := by decide +kernel
theorem dX12_doesEmpty_17 : decode cX12_doesEmpty 17 = .ok (.iload_n 1, 1) := by decide +kernel
theorem dX12_doesEmpty_18 : decode cX12_doesEmpty 18 = .ok (.imul, 1) := by decide +kernel
theorem dX12_doesEmpty_19 : decode cX12_doesEmpty 19 = .ok (.iadd, 1) := by decide +kernel
theorem dX12_doesEmpty_20 : decode cX12_doesEmpty 20 = .ok (.istore_n 2, 1) := by decide +kernel
theorem dX12_doesEmpty_21 : decode cX12_doesEmpty 21 = .ok (.aload_n 0, 1) := by decide +kernel
theorem dX12_doesEmpty_22 : decode cX12_doesEmpty 22 = .ok (.getfield 9, 3) := by decide +kernel
theorem dX12_doesEmpty_25 : decode cX12_doesEmpty 25 = .ok (.iload_n 2, 1) := by decide +kernel
theorem dX12_doesEmpty_26 : decode cX12_doesEmpty 26 = .ok (.iaload, 1) := by decide +kernel
theorem dX12_doesEmpty_27 : decode cX12_doesEmpty 27 = .ok (.ifCond .ge 11, 3) := by decide +kernel
theorem dX12_doesEmpty_30 : decode cX12_doesEmpty 30 = .ok (.aload_n 0, 1) := by decide +kernel
theorem dX12_doesEmpty_31 : decode cX12_doesEmpty 31 = .ok (.bipush 8, 2) := by decide +kernel
theorem dX12_doesEmpty_33 : decode cX12_doesEmpty 33 = .ok (.iconst 0, 1) := by decide +kernel
theorem dX12_doesEmpty_34 : decode cX12_doesEmpty 34 = .ok (.invokevirtual 75, 3) := by decide +kernel
theorem dX12_doesEmpty_37 : decode cX12_doesEmpty 37 = .ok (.ireturn, 1) := by decide +kernel
theorem dX12_doesEmpty_38 : decode cX12_doesEmpty 38 = .ok (.aload_n 0, 1) := by decide +kernel
theorem dX12_doesEmpty_39 : decode cX12_doesEmpty 39 = .ok (.getfield 9, 3) := by decide +kernel
theorem dX12_doesEmpty_42 : decode cX12_doesEmpty 42 = .ok (.iload_n 2, 1) := by decide +kernel
theorem dX12_doesEmpty_43 : decode cX12_doesEmpty 43 = .ok (.iconst 1, 1) := by decide +kernel
theorem dX12_doesEmpty_44 : decode cX12_doesEmpty 44 = .ok (.iadd, 1) := by decide +kernel
theorem dX12_doesEmpty_45 : decode cX12_doesEmpty 45 = .ok (.iaload, 1) := by decide +kernel
theorem dX12_doesEmpty_46 : decode cX12_doesEmpty 46 = .ok (.istore_n 3, 1) := by decide +kernel
theorem dX12_doesEmpty_47 : decode cX12_doesEmpty 47 = .ok (.aload_n 0, 1) := by decide +kernel
theorem dX12_doesEmpty_48 : decode cX12_doesEmpty 48 = .ok (.iload_n 2, 1) := by decide +kernel
theorem dX12_doesEmpty_49 : decode cX12_doesEmpty 49 = .ok (.invokevirtual 99, 3) := by decide +kernel
theorem dX12_doesEmpty_52 : decode cX12_doesEmpty 52 = .ok (.aload_n 0, 1) := by decide +kernel
theorem dX12_doesEmpty_53 : decode cX12_doesEmpty 53 = .ok (.iload_n 3, 1) := by decide +kernel
theorem dX12_doesEmpty_54 : decode cX12_doesEmpty 54 = .ok (.invokevirtual 79, 3) := by decide +kernel
theorem dX12_doesEmpty_57 : decode cX12_doesEmpty 57 = .ok (.ireturn, 1) := by decide +kernel
theorem dX12_doesPause_0 : decode cX12_doesPause 0 = .ok (.iload_n 1, 1) := by decide +kernel
theorem dX12_doesPause_1 : decode cX12_doesPause 1 = .ok (.iconst 1, 1) := by decide +kernel
theorem dX12_doesPause_2 : decode cX12_doesPause 2 = .ok (.sipush 999, 3) := by decide +kernel
theorem dX12_doesPause_5 : decode cX12_doesPause 5 = .ok (.invokestatic 64, 3) := by decide +kernel
theorem dX12_doesPause_8 : decode cX12_doesPause 8 = .ok (.ifCond .eq 15, 3) := by decide +kernel
theorem dX12_doesPause_11 : decode cX12_doesPause 11 = .ok (.aload_n 0, 1) := by decide +kernel
theorem dX12_doesPause_12 : decode cX12_doesPause 12 = .ok (.aload_n 0, 1) := by decide +kernel
theorem dX12_doesPause_13 : decode cX12_doesPause 13 = .ok (.iload_n 1, 1) := by decide +kernel
theorem dX12_doesPause_14 : decode cX12_doesPause 14 = .ok (.invokevirtual 89, 3) := by decide +kernel
theorem dX12_doesPause_17 : decode cX12_doesPause 17 = .ok (.invokevirtual 79, 3) := by decide +kernel
theorem dX12_doesPause_20 : decode cX12_doesPause 20 = .ok (.goto 9, 3) := by decide +kernel
theorem dX12_doesPause_23 : decode cX12_doesPause 23 = .ok (.aload_n 0, 1) := by decide +kernel
theorem dX12_doesPause_24 : decode cX12_doesPause 24 = .ok (.iconst 2, 1) := by decide +kernel
theorem dX12_doesPause_25 : decode cX12_doesPause 25 = .ok (.iconst 0, 1) := by decide +kernel
theorem dX12_doesPause_26 : decode cX12_doesPause 26 = .ok (.invokevirtual 75, 3) := by decide +kernel
theorem dX12_doesPause_29 : decode cX12_doesPause 29 = .ok (.ireturn, 1) := by decide +kernel
theorem dX12_purgeOf_0 : decode cX12_purgeOf 0 = .ok (.iload_n 1, 1) := by decide +kernel
theorem dX12_purgeOf_1 : decode cX12_purgeOf 1 = .ok (.ifCond .lt 8, 3) := by decide +kernel
theorem dX12_purgeOf_4 : decode cX12_purgeOf 4 = .ok (.iload_n 1, 1) := by decide +kernel
theorem dX12_purgeOf_5 : decode cX12_purgeOf 5 = .ok (.iload_n 2, 1) := by decide +kernel
theorem dX12_purgeOf_6 : decode cX12_purgeOf 6 = .ok (.if_icmp .ne 5, 3) := by decide +kernel
theorem dX12_purgeOf_9 : decode cX12_purgeOf 9 = .ok (.iconst 0, 1) := by decide +kernel
theorem dX12_purgeOf_10 : decode cX12_purgeOf 10 = .ok (.ireturn, 1) := by decide +kernel
theorem dX12_purgeOf_11 : decode cX12_purgeOf 11 = .ok (.iconst 1, 1) := by decide +kernel
theorem dX12_purgeOf_12 : decode cX12_purgeOf 12 = .ok (.iconst 0, 1) := by decide +kernel
theorem dX12_purgeOf_13 : decode cX12_purgeOf 13 = .ok (.aload_n 0, 1) := by decide +kernel
theorem dX12_purgeOf_14 : decode cX12_purgeOf 14 = .ok (.getfield 9, 3) := by decide +kernel
theorem dX12_purgeOf_17 : decode cX12_purgeOf 17 = .ok (.bipush 16, 2) := by decide +kernel
theorem dX12_purgeOf_19 : decode cX12_purgeOf 19 = .ok (.iload_n 1, 1) := by decide +kernel
theorem dX12_purgeOf_20 : decode cX12_purgeOf 20 = .ok (.iadd, 1) := by decide +kernel
theorem dX12_purgeOf_21 : decode cX12_purgeOf 21 = .ok (.iaload, 1) := by decide +kernel
theorem dX12_purgeOf_22 : decode cX12_purgeOf 22 = .ok (.aload_n 0, 1) := by decide +kernel
theorem dX12_purgeOf_23 : decode cX12_purgeOf 23 = .ok (.getfield 9, 3) := by decide +kernel
theorem dX12_purgeOf_26 : decode cX12_purgeOf 26 = .ok (.bipush 16, 2) := by decide +kernel
theorem dX12_purgeOf_28 : decode cX12_purgeOf 28 = .ok (.iload_n 2, 1) := by decide +kernel
theorem dX12_purgeOf_29 : decode cX12_purgeOf 29 = .ok (.iadd, 1) := by decide +kernel
theorem dX12_purgeOf_30 : decode cX12_purgeOf 30 = .ok (.iaload, 1) := by decide +kernel
theorem dX12_purgeOf_31 : decode cX12_purgeOf 31 = .ok (.isub, 1) := by decide +kernel
theorem dX12_purgeOf_32 : decode cX12_purgeOf 32 = .ok (.invokestatic 103, 3) := by decide +kernel
theorem dX12_purgeOf_35 : decode cX12_purgeOf 35 = .ok (.aload_n 0, 1) := by decide +kernel
theorem dX12_purgeOf_36 : decode cX12_purgeOf 36 = .ok (.getfield 9, 3) := by decide +kernel
theorem dX12_purgeOf_39 : decode cX12_purgeOf 39 = .ok (.bipush 14, 2) := by decide +kernel
theorem dX12_purgeOf_41 : decode cX12_purgeOf 41 = .ok (.iaload, 1) := by decide +kernel
theorem dX12_purgeOf_42 : decode cX12_purgeOf 42 = .ok (.imul, 1) := by decide +kernel
theorem dX12_purgeOf_43 : decode cX12_purgeOf 43 = .ok (.iadd, 1) := by decide +kernel
theorem dX12_purgeOf_44 : decode cX12_purgeOf 44 = .ok (.ireturn, 1) := by decide +kernel
theorem dX12_doesRun_0 : decode cX12_doesRun 0 = .ok (.aload_n 0, 1) := by decide +kernel
theorem dX12_doesRun_1 : decode cX12_doesRun 1 = .ok (.iload_n 1, 1) := by decide +kernel
theorem dX12_doesRun_2 : decode cX12_doesRun 2 = .ok (.invokevirtual 95, 3) := by decide +kernel
theorem dX12_doesRun_5 : decode cX12_doesRun 5 = .ok (.ifCond .ne 10, 3) := by decide +kernel
theorem dX12_doesRun_8 : decode cX12_doesRun 8 = .ok (.aload_n 0, 1) := by decide +kernel
theorem dX12_doesRun_9 : decode cX12_doesRun 9 = .ok (.iconst 1, 1) := by decide +kernel
theorem dX12_doesRun_10 : decode cX12_doesRun 10 = .ok (.iconst 0, 1) := by decide +kernel
theorem dX12_doesRun_11 : decode cX12_doesRun 11 = .ok (.invokevirtual 75, 3) := by decide +kernel
theorem dX12_doesRun_14 : decode cX12_doesRun 14 = .ok (.ireturn, 1) := by decide +kernel
theorem dX12_doesRun_15 : decode cX12_doesRun 15 = .ok (.iload_n 2, 1) := by decide +kernel
theorem dX12_doesRun_16 : decode cX12_doesRun 16 = .ok (.iconst 1, 1) := by decide +kernel
theorem dX12_doesRun_17 : decode cX12_doesRun 17 = .ok (.sipush 200, 3) := by decide +kernel
theorem dX12_doesRun_20 : decode cX12_doesRun 20 = .ok (.invokestatic 64, 3) := by decide +kernel
theorem dX12_doesRun_23 : decode cX12_doesRun 23 = .ok (.ifCond .ne 10, 3) := by decide +kernel
theorem dX12_doesRun_26 : decode cX12_doesRun 26 = .ok (.aload_n 0, 1) := by decide +kernel
theorem dX12_doesRun_27 : decode cX12_doesRun 27 = .ok (.iconst 2, 1) := by decide +kernel
theorem dX12_doesRun_28 : decode cX12_doesRun 28 = .ok (.iconst 0, 1) := by decide +kernel
theorem dX12_doesRun_29 : decode cX12_doesRun 29 = .ok (.invokevirtual 75, 3) := by decide +kernel
theorem dX12_doesRun_32 : decode cX12_doesRun 32 = .ok (.ireturn, 1) := by decide +kernel
theorem dX12_doesRun_33 : decode cX12_doesRun 33 = .ok (.aload_n 0, 1) := by decide +kernel
theorem dX12_doesRun_34 : decode cX12_doesRun 34 = .ok (.getfield 9, 3) := by decide +kernel
theorem dX12_doesRun_37 : decode cX12_doesRun 37 = .ok (.iconst 4, 1) := by decide +kernel
theorem dX12_doesRun_38 : decode cX12_doesRun 38 = .ok (.iaload, 1) := by decide +kernel
theorem dX12_doesRun_39 : decode cX12_doesRun 39 = .ok (.istore_n 3, 1) := by decide +kernel
theorem dX12_doesRun_40 : decode cX12_doesRun 40 = .ok (.iload_n 3, 1) := by decide +kernel
theorem dX12_doesRun_41 : decode cX12_doesRun 41 = .ok (.ifCond .ge 10, 3) := by decide +kernel
theorem dX12_doesRun_44 : decode cX12_doesRun 44 = .ok (.aload_n 0, 1) := by decide +kernel
theorem dX12_doesRun_45 : decode cX12_doesRun 45 = .ok (.iconst 5, 1) := by decide +kernel
theorem dX12_doesRun_46 : decode cX12_doesRun 46 = .ok (.iconst 0, 1) := by decide +kernel
theorem dX12_doesRun_47 : decode cX12_doesRun 47 = .ok (.invokevirtual 75, 3) := by decide +kernel
theorem dX12_doesRun_50 : decode cX12_doesRun 50 = .ok (.ireturn, 1) := by decide +kernel
theorem dX12_doesRun_51 : decode cX12_doesRun 51 = .ok (.aload_n 0, 1) := by decide +kernel
theorem dX12_doesRun_52 : decode cX12_doesRun 52 = .ok (.aload_n 0, 1) := by decide +kernel
theorem dX12_doesRun_53 : decode cX12_doesRun 53 = .ok (.getfield 9, 3) := by decide +kernel
theorem dX12_doesRun_56 : decode cX12_doesRun 56 = .ok (.iconst 5, 1) := by decide +kernel
theorem dX12_doesRun_57 : decode cX12_doesRun 57 = .ok (.iaload, 1) := by decide +kernel
theorem dX12_doesRun_58 : decode cX12_doesRun 58 = .ok (.iload_n 1, 1) := by decide +kernel
theorem dX12_doesRun_59 : decode cX12_doesRun 59 = .ok (.invokevirtual 108, 3) := by decide +kernel
theorem dX12_doesRun_62 : decode cX12_doesRun 62 = .ok (.istore 4, 2) := by decide +kernel
theorem dX12_doesRun_64 : decode cX12_doesRun 64 = .ok (.aload_n 0, 1) := by decide +kernel
theorem dX12_doesRun_65 : decode cX12_doesRun 65 = .ok (.iload_n 3, 1) := by decide +kernel
theorem dX12_doesRun_66 : decode cX12_doesRun 66 = .ok (.iconst 1, 1) := by decide +kernel
theorem dX12_doesRun_67 : decode cX12_doesRun 67 = .ok (.invokevirtual 111, 3) := by decide +kernel
theorem dX12_doesRun_70 : decode cX12_doesRun 70 = .ok (.iload 4, 2) := by decide +kernel
theorem dX12_doesRun_72 : decode cX12_doesRun 72 = .ok (.iload_n 2, 1) := by decide +kernel
theorem dX12_doesRun_73 : decode cX12_doesRun 73 = .ok (.iadd, 1) := by decide +kernel
theorem dX12_doesRun_74 : decode cX12_doesRun 74 = .ok (.imul, 1) := by decide +kernel
theorem dX12_doesRun_75 : decode cX12_doesRun 75 = .ok (.istore 5, 2) := by decide +kernel
theorem dX12_doesRun_77 : decode cX12_doesRun 77 = .ok (.iconst (-1), 1) := by decide +kernel
theorem dX12_doesRun_78 : decode cX12_doesRun 78 = .ok (.istore 6, 2) := by decide +kernel
theorem dX12_doesRun_80 : decode cX12_doesRun 80 = .ok (.iconst (-1), 1) := by decide +kernel
theorem dX12_doesRun_81 : decode cX12_doesRun 81 = .ok (.istore 7, 2) := by decide +kernel
theorem dX12_doesRun_83 : decode cX12_doesRun 83 = .ok (.iconst 2, 1) := by decide +kernel
theorem dX12_doesRun_84 : decode cX12_doesRun 84 = .ok (.istore 8, 2) := by decide +kernel
theorem dX12_doesRun_86 : decode cX12_doesRun 86 = .ok (.iload 8, 2) := by decide +kernel
theorem dX12_doesRun_88 : decode cX12_doesRun 88 = .ok (.ifCond .lt 73, 3) := by decide +kernel
theorem dX12_doesRun_91 : decode cX12_doesRun 91 = .ok (.bipush 100, 2) := by decide +kernel
theorem dX12_doesRun_93 : decode cX12_doesRun 93 = .ok (.iconst 3, 1) := by decide +kernel
theorem dX12_doesRun_94 : decode cX12_doesRun 94 = .ok (.iload 8, 2) := by decide +kernel
theorem dX12_doesRun_96 : decode cX12_doesRun 96 = .ok (.imul, 1) := by decide +kernel
theorem dX12_doesRun_97 : decode cX12_doesRun 97 = .ok (.iadd, 1) := by decide +kernel
theorem dX12_doesRun_98 : decode cX12_doesRun 98 = .ok (.istore 9, 2) := by decide +kernel
theorem dX12_doesRun_100 : decode cX12_doesRun 100 = .ok (.aload_n 0, 1) := by decide +kernel
theorem dX12_doesRun_101 : decode cX12_doesRun 101 = .ok (.getfield 9, 3) := by decide +kernel
theorem dX12_doesRun_104 : decode cX12_doesRun 104 = .ok (.iload 9, 2) := by decide +kernel
theorem dX12_doesRun_106 : decode cX12_doesRun 106 = .ok (.iaload, 1) := by decide +kernel
theorem dX12_doesRun_107 : decode cX12_doesRun 107 = .ok (.iload_n 1, 1) := by decide +kernel
theorem dX12_doesRun_108 : decode cX12_doesRun 108 = .ok (.if_icmp .eq 6, 3) := by decide +kernel
theorem dX12_doesRun_111 : decode cX12_doesRun 111 = .ok (.goto 44, 3) := by decide +kernel
theorem dX12_doesRun_114 : decode cX12_doesRun 114 = .ok (.iload 9, 2) := by decide +kernel
theorem dX12_doesRun_116 : decode cX12_doesRun 116 = .ok (.istore 7, 2) := by decide +kernel
theorem dX12_doesRun_118 : decode cX12_doesRun 118 = .ok (.aload_n 0, 1) := by decide +kernel
theorem dX12_doesRun_119 : decode cX12_doesRun 119 = .ok (.getfield 9, 3) := by decide +kernel
theorem dX12_doesRun_122 : decode cX12_doesRun 122 = .ok (.iload 9, 2) := by decide +kernel
theorem dX12_doesRun_124 : decode cX12_doesRun 124 = .ok (.iconst 2, 1) := by decide +kernel
theorem dX12_doesRun_125 : decode cX12_doesRun 125 = .ok (.iadd, 1) := by decide +kernel
theorem dX12_doesRun_126 : decode cX12_doesRun 126 = .ok (.iaload, 1) := by decide +kernel
theorem dX12_doesRun_127 : decode cX12_doesRun 127 = .ok (.aload_n 0, 1) := by decide +kernel
theorem dX12_doesRun_128 : decode cX12_doesRun 128 = .ok (.getfield 9, 3) := by decide +kernel
theorem dX12_doesRun_131 : decode cX12_doesRun 131 = .ok (.bipush 13, 2) := by decide +kernel
theorem dX12_doesRun_133 : decode cX12_doesRun 133 = .ok (.iaload, 1) := by decide +kernel
theorem dX12_doesRun_134 : decode cX12_doesRun 134 = .ok (.if_icmp .lt 21, 3) := by decide +kernel
theorem dX12_doesRun_137 : decode cX12_doesRun 137 = .ok (.aload_n 0, 1) := by decide +kernel
theorem dX12_doesRun_138 : decode cX12_doesRun 138 = .ok (.getfield 9, 3) := by decide +kernel
theorem dX12_doesRun_141 : decode cX12_doesRun 141 = .ok (.iload 9, 2) := by decide +kernel
theorem dX12_doesRun_143 : decode cX12_doesRun 143 = .ok (.iconst 1, 1) := by decide +kernel
theorem dX12_doesRun_144 : decode cX12_doesRun 144 = .ok (.iadd, 1) := by decide +kernel
theorem dX12_doesRun_145 : decode cX12_doesRun 145 = .ok (.iaload, 1) := by decide +kernel
theorem dX12_doesRun_146 : decode cX12_doesRun 146 = .ok (.iload 5, 2) := by decide +kernel
theorem dX12_doesRun_148 : decode cX12_doesRun 148 = .ok (.if_icmp .lt 7, 3) := by decide +kernel
theorem dX12_doesRun_151 : decode cX12_doesRun 151 = .ok (.iload 9, 2) := by decide +kernel
theorem dX12_doesRun_153 : decode cX12_doesRun 153 = .ok (.istore 6, 2) := by decide +kernel
theorem dX12_doesRun_155 : decode cX12_doesRun 155 = .ok (.iinc 8 (-1), 3) := by decide +kernel
theorem dX12_doesRun_158 : decode cX12_doesRun 158 = .ok (.goto (-72), 3) := by decide +kernel
theorem dX12_doesRun_161 : decode cX12_doesRun 161 = .ok (.iload 6, 2) := by decide +kernel
theorem dX12_doesRun_163 : decode cX12_doesRun 163 = .ok (.ifCond .ge 76, 3) := by decide +kernel
theorem dX12_doesRun_166 : decode cX12_doesRun 166 = .ok (.aload_n 0, 1) := by decide +kernel
theorem dX12_doesRun_167 : decode cX12_doesRun 167 = .ok (.bipush 10, 2) := by decide +kernel
theorem dX12_doesRun_169 : decode cX12_doesRun 169 = .ok (.iconst 0, 1) := by decide +kernel
theorem dX12_doesRun_170 : decode cX12_doesRun 170 = .ok (.invokevirtual 75, 3) := by decide +kernel
theorem dX12_doesRun_173 : decode cX12_doesRun 173 = .ok (.istore 8, 2) := by decide +kernel
theorem dX12_doesRun_175 : decode cX12_doesRun 175 = .ok (.iload 7, 2) := by decide +kernel
theorem dX12_doesRun_177 : decode cX12_doesRun 177 = .ok (.ifCond .ge 6, 3) := by decide +kernel
theorem dX12_doesRun_180 : decode cX12_doesRun 180 = .ok (.iload 8, 2) := by decide +kernel
theorem dX12_doesRun_182 : decode cX12_doesRun 182 = .ok (.ireturn, 1) := by decide +kernel
theorem dX12_doesRun_183 : decode cX12_doesRun 183 = .ok (.aload_n 0, 1) := by decide +kernel
theorem dX12_doesRun_184 : decode cX12_doesRun 184 = .ok (.getfield 9, 3) := by decide +kernel
theorem dX12_doesRun_187 : decode cX12_doesRun 187 = .ok (.bipush 13, 2) := by decide +kernel
theorem dX12_doesRun_189 : decode cX12_doesRun 189 = .ok (.iaload, 1) := by decide +kernel
theorem dX12_doesRun_190 : decode cX12_doesRun 190 = .ok (.aload_n 0, 1) := by decide +kernel
theorem dX12_doesRun_191 : decode cX12_doesRun 191 = .ok (.getfield 9, 3) := by decide +kernel
theorem dX12_doesRun_194 : decode cX12_doesRun 194 = .ok (.iload 7, 2) := by decide +kernel
theorem dX12_doesRun_196 : decode cX12_doesRun 196 = .ok (.iconst 2, 1) := by decide +kernel
theorem dX12_doesRun_197 : decode cX12_doesRun 197 = .ok (.iadd, 1) := by decide +kernel
theorem dX12_doesRun_198 : decode cX12_doesRun 198 = .ok (.iaload, 1) := by decide +kernel
theorem dX12_doesRun_199 : decode cX12_doesRun 199 = .ok (.isub, 1) := by decide +kernel
theorem dX12_doesRun_200 : decode cX12_doesRun 200 = .ok (.istore 9, 2) := by decide +kernel
theorem dX12_doesRun_202 : decode cX12_doesRun 202 = .ok (.iload 9, 2) := by decide +kernel
theorem dX12_doesRun_204 : decode cX12_doesRun 204 = .ok (.ifCond .le 14, 3) := by decide +kernel
theorem dX12_doesRun_207 : decode cX12_doesRun 207 = .ok (.aload_n 0, 1) := by decide +kernel
theorem dX12_doesRun_208 : decode cX12_doesRun 208 = .ok (.bipush 11, 2) := by decide +kernel
theorem dX12_doesRun_210 : decode cX12_doesRun 210 = .ok (.iload 9, 2) := by decide +kernel
theorem dX12_doesRun_212 : decode cX12_doesRun 212 = .ok (.invokevirtual 114, 3) := by decide +kernel
theorem dX12_doesRun_215 : decode cX12_doesRun 215 = .ok (.goto 21, 3) := by decide +kernel
theorem dX12_doesRun_218 : decode cX12_doesRun 218 = .ok (.aload_n 0, 1) := by decide +kernel
theorem dX12_doesRun_219 : decode cX12_doesRun 219 = .ok (.bipush 12, 2) := by decide +kernel
theorem dX12_doesRun_221 : decode cX12_doesRun 221 = .ok (.iload 5, 2) := by decide +kernel
theorem dX12_doesRun_223 : decode cX12_doesRun 223 = .ok (.aload_n 0, 1) := by decide +kernel
theorem dX12_doesRun_224 : decode cX12_doesRun 224 = .ok (.getfield 9, 3) := by decide +kernel
theorem dX12_doesRun_227 : decode cX12_doesRun 227 = .ok (.iload 7, 2) := by decide +kernel
theorem dX12_doesRun_229 : decode cX12_doesRun 229 = .ok (.iconst 1, 1) := by decide +kernel
theorem dX12_doesRun_230 : decode cX12_doesRun 230 = .ok (.iadd, 1) := by decide +kernel
theorem dX12_doesRun_231 : decode cX12_doesRun 231 = .ok (.iaload, 1) := by decide +kernel
theorem dX12_doesRun_232 : decode cX12_doesRun 232 = .ok (.isub, 1) := by decide +kernel
theorem dX12_doesRun_233 : decode cX12_doesRun 233 = .ok (.invokevirtual 114, 3) := by decide +kernel
theorem dX12_doesRun_236 : decode cX12_doesRun 236 = .ok (.iload 8, 2) := by decide +kernel
theorem dX12_doesRun_238 : decode cX12_doesRun 238 = .ok (.ireturn, 1) := by decide +kernel
theorem dX12_doesRun_239 : decode cX12_doesRun 239 = .ok (.aload_n 0, 1) := by decide +kernel
theorem dX12_doesRun_240 : decode cX12_doesRun 240 = .ok (.getfield 9, 3) := by decide +kernel
theorem dX12_doesRun_243 : decode cX12_doesRun 243 = .ok (.iload 6, 2) := by decide +kernel
theorem dX12_doesRun_245 : decode cX12_doesRun 245 = .ok (.iconst 1, 1) := by decide +kernel
theorem dX12_doesRun_246 : decode cX12_doesRun 246 = .ok (.iadd, 1) := by decide +kernel
theorem dX12_doesRun_247 : decode cX12_doesRun 247 = .ok (.dup2, 1) := by decide +kernel
theorem dX12_doesRun_248 : decode cX12_doesRun 248 = .ok (.iaload, 1) := by decide +kernel
theorem dX12_doesRun_249 : decode cX12_doesRun 249 = .ok (.iload 5, 2) := by decide +kernel
theorem dX12_doesRun_251 : decode cX12_doesRun 251 = .ok (.isub, 1) := by decide +kernel
theorem dX12_doesRun_252 : decode cX12_doesRun 252 = .ok (.iastore, 1) := by decide +kernel
theorem dX12_doesRun_253 : decode cX12_doesRun 253 = .ok (.aload_n 0, 1) := by decide +kernel
theorem dX12_doesRun_254 : decode cX12_doesRun 254 = .ok (.getfield 9, 3) := by decide +kernel
theorem dX12_doesRun_257 : decode cX12_doesRun 257 = .ok (.iload 6, 2) := by decide +kernel
theorem dX12_doesRun_259 : decode cX12_doesRun 259 = .ok (.iconst 1, 1) := by decide +kernel
theorem dX12_doesRun_260 : decode cX12_doesRun 260 = .ok (.iadd, 1) := by decide +kernel
theorem dX12_doesRun_261 : decode cX12_doesRun 261 = .ok (.iaload, 1) := by decide +kernel
theorem dX12_doesRun_262 : decode cX12_doesRun 262 = .ok (.ifCond .ne 9, 3) := by decide +kernel
theorem dX12_doesRun_265 : decode cX12_doesRun 265 = .ok (.aload_n 0, 1) := by decide +kernel
theorem dX12_doesRun_266 : decode cX12_doesRun 266 = .ok (.iload 6, 2) := by decide +kernel
theorem dX12_doesRun_268 : decode cX12_doesRun 268 = .ok (.invokevirtual 99, 3) := by decide +kernel
theorem dX12_doesRun_271 : decode cX12_doesRun 271 = .ok (.aload_n 0, 1) := by decide +kernel
theorem dX12_doesRun_272 : decode cX12_doesRun 272 = .ok (.getfield 9, 3) := by decide +kernel
theorem dX12_doesRun_275 : decode cX12_doesRun 275 = .ok (.bipush 9, 2) := by decide +kernel
theorem dX12_doesRun_277 : decode cX12_doesRun 277 = .ok (.dup2, 1) := by decide +kernel
theorem dX12_doesRun_278 : decode cX12_doesRun 278 = .ok (.iaload, 1) := by decide +kernel
theorem dX12_doesRun_279 : decode cX12_doesRun 279 = .ok (.iload 5, 2) := by decide +kernel
theorem dX12_doesRun_281 : decode cX12_doesRun 281 = .ok (.iadd, 1) := by decide +kernel
theorem dX12_doesRun_282 : decode cX12_doesRun 282 = .ok (.iastore, 1) := by decide +kernel
theorem dX12_doesRun_283 : decode cX12_doesRun 283 = .ok (.aload_n 0, 1) := by decide +kernel
theorem dX12_doesRun_284 : decode cX12_doesRun 284 = .ok (.getfield 9, 3) := by decide +kernel
theorem dX12_doesRun_287 : decode cX12_doesRun 287 = .ok (.bipush 10, 2) := by decide +kernel
theorem dX12_doesRun_289 : decode cX12_doesRun 289 = .ok (.dup2, 1) := by decide +kernel
theorem dX12_doesRun_290 : decode cX12_doesRun 290 = .ok (.iaload, 1) := by decide +kernel
theorem dX12_doesRun_291 : decode cX12_doesRun 291 = .ok (.iload 4, 2) := by decide +kernel
theorem dX12_doesRun_293 : decode cX12_doesRun 293 = .ok (.iload_n 2, 1) := by decide +kernel
theorem dX12_doesRun_294 : decode cX12_doesRun 294 = .ok (.iadd, 1) := by decide +kernel
theorem dX12_doesRun_295 : decode cX12_doesRun 295 = .ok (.iadd, 1) := by decide +kernel
theorem dX12_doesRun_296 : decode cX12_doesRun 296 = .ok (.iastore, 1) := by decide +kernel
theorem dX12_doesRun_297 : decode cX12_doesRun 297 = .ok (.aload_n 0, 1) := by decide +kernel
theorem dX12_doesRun_298 : decode cX12_doesRun 298 = .ok (.getfield 9, 3) := by decide +kernel
theorem dX12_doesRun_301 : decode cX12_doesRun 301 = .ok (.bipush 11, 2) := by decide +kernel
theorem dX12_doesRun_303 : decode cX12_doesRun 303 = .ok (.dup2, 1) := by decide +kernel
theorem dX12_doesRun_304 : decode cX12_doesRun 304 = .ok (.iaload, 1) := by decide +kernel
theorem dX12_doesRun_305 : decode cX12_doesRun 305 = .ok (.iload 4, 2) := by decide +kernel
theorem dX12_doesRun_307 : decode cX12_doesRun 307 = .ok (.iadd, 1) := by decide +kernel
theorem dX12_doesRun_308 : decode cX12_doesRun 308 = .ok (.iastore, 1) := by decide +kernel
theorem dX12_doesRun_309 : decode cX12_doesRun 309 = .ok (.aload_n 0, 1) := by decide +kernel
theorem dX12_doesRun_310 : decode cX12_doesRun 310 = .ok (.getfield 9, 3) := by decide +kernel
theorem dX12_doesRun_313 : decode cX12_doesRun 313 = .ok (.iconst 5, 1) := by decide +kernel
theorem dX12_doesRun_314 : decode cX12_doesRun 314 = .ok (.iload_n 1, 1) := by decide +kernel
theorem dX12_doesRun_315 : decode cX12_doesRun 315 = .ok (.iastore, 1) := by decide +kernel
theorem dX12_doesRun_316 : decode cX12_doesRun 316 = .ok (.aload_n 0, 1) := by decide +kernel
theorem dX12_doesRun_317 : decode cX12_doesRun 317 = .ok (.aload_n 0, 1) := by decide +kernel
theorem dX12_doesRun_318 : decode cX12_doesRun 318 = .ok (.iload_n 3, 1) := by decide +kernel
theorem dX12_doesRun_319 : decode cX12_doesRun 319 = .ok (.iconst 0, 1) := by decide +kernel
theorem dX12_doesRun_320 : decode cX12_doesRun 320 = .ok (.invokevirtual 111, 3) := by decide +kernel
theorem dX12_doesRun_323 : decode cX12_doesRun 323 = .ok (.iload 4, 2) := by decide +kernel
theorem dX12_doesRun_325 : decode cX12_doesRun 325 = .ok (.iload_n 2, 1) := by decide +kernel
theorem dX12_doesRun_326 : decode cX12_doesRun 326 = .ok (.iadd, 1) := by decide +kernel
theorem dX12_doesRun_327 : decode cX12_doesRun 327 = .ok (.imul, 1) := by decide +kernel
theorem dX12_doesRun_328 : decode cX12_doesRun 328 = .ok (.invokevirtual 89, 3) := by decide +kernel
theorem dX12_doesRun_331 : decode cX12_doesRun 331 = .ok (.istore 8, 2) := by decide +kernel
theorem dX12_doesRun_333 : decode cX12_doesRun 333 = .ok (.iconst 0, 1) := by decide +kernel
theorem dX12_doesRun_334 : decode cX12_doesRun 334 = .ok (.istore 9, 2) := by decide +kernel
theorem dX12_doesRun_336 : decode cX12_doesRun 336 = .ok (.iload 9, 2) := by decide +kernel
theorem dX12_doesRun_338 : decode cX12_doesRun 338 = .ok (.aload_n 0, 1) := by decide +kernel
theorem dX12_doesRun_339 : decode cX12_doesRun 339 = .ok (.iload_n 3, 1) := by decide +kernel
theorem dX12_doesRun_340 : decode cX12_doesRun 340 = .ok (.iconst 2, 1) := by decide +kernel
theorem dX12_doesRun_341 : decode cX12_doesRun 341 = .ok (.invokevirtual 111, 3) := by decide +kernel
theorem dX12_doesRun_344 : decode cX12_doesRun 344 = .ok (.if_icmp .ge 155, 3) := by decide +kernel
theorem dX12_doesRun_347 : decode cX12_doesRun 347 = .ok (.aload_n 0, 1) := by decide +kernel
theorem dX12_doesRun_348 : decode cX12_doesRun 348 = .ok (.iload_n 3, 1) := by decide +kernel
theorem dX12_doesRun_349 : decode cX12_doesRun 349 = .ok (.iconst 3, 1) := by decide +kernel
theorem dX12_doesRun_350 : decode cX12_doesRun 350 = .ok (.iload 9, 2) := by decide +kernel
theorem dX12_doesRun_352 : decode cX12_doesRun 352 = .ok (.iadd, 1) := by decide +kernel
theorem dX12_doesRun_353 : decode cX12_doesRun 353 = .ok (.invokevirtual 111, 3) := by decide +kernel
theorem dX12_doesRun_356 : decode cX12_doesRun 356 = .ok (.istore 10, 2) := by decide +kernel
theorem dX12_doesRun_358 : decode cX12_doesRun 358 = .ok (.aload_n 0, 1) := by decide +kernel
theorem dX12_doesRun_359 : decode cX12_doesRun 359 = .ok (.iload_n 3, 1) := by decide +kernel
theorem dX12_doesRun_360 : decode cX12_doesRun 360 = .ok (.bipush 6, 2) := by decide +kernel
theorem dX12_doesRun_362 : decode cX12_doesRun 362 = .ok (.iload 9, 2) := by decide +kernel
theorem dX12_doesRun_364 : decode cX12_doesRun 364 = .ok (.iadd, 1) := by decide +kernel
theorem dX12_doesRun_365 : decode cX12_doesRun 365 = .ok (.invokevirtual 111, 3) := by decide +kernel
theorem dX12_doesRun_368 : decode cX12_doesRun 368 = .ok (.istore 11, 2) := by decide +kernel
theorem dX12_doesRun_370 : decode cX12_doesRun 370 = .ok (.iload 10, 2) := by decide +kernel
theorem dX12_doesRun_372 : decode cX12_doesRun 372 = .ok (.iload_n 1, 1) := by decide +kernel
theorem dX12_doesRun_373 : decode cX12_doesRun 373 = .ok (.invokestatic 68, 3) := by decide +kernel
theorem dX12_doesRun_376 : decode cX12_doesRun 376 = .ok (.istore 12, 2) := by decide +kernel
theorem dX12_doesRun_378 : decode cX12_doesRun 378 = .ok (.aload_n 0, 1) := by decide +kernel
theorem dX12_doesRun_379 : decode cX12_doesRun 379 = .ok (.getfield 9, 3) := by decide +kernel
theorem dX12_doesRun_382 : decode cX12_doesRun 382 = .ok (.bipush 30, 2) := by decide +kernel
theorem dX12_doesRun_384 : decode cX12_doesRun 384 = .ok (.iload 10, 2) := by decide +kernel
theorem dX12_doesRun_386 : decode cX12_doesRun 386 = .ok (.iadd, 1) := by decide +kernel
theorem dX12_doesRun_387 : decode cX12_doesRun 387 = .ok (.dup2, 1) := by decide +kernel
theorem dX12_doesRun_388 : decode cX12_doesRun 388 = .ok (.iaload, 1) := by decide +kernel
theorem dX12_doesRun_389 : decode cX12_doesRun 389 = .ok (.iload 11, 2) := by decide +kernel
theorem dX12_doesRun_391 : decode cX12_doesRun 391 = .ok (.iload 4, 2) := by decide +kernel
theorem dX12_doesRun_393 : decode cX12_doesRun 393 = .ok (.iload_n 2, 1) := by decide +kernel
theorem dX12_doesRun_394 : decode cX12_doesRun 394 = .ok (.iadd, 1) := by decide +kernel
theorem dX12_doesRun_395 : decode cX12_doesRun 395 = .ok (.imul, 1) := by decide +kernel
theorem dX12_doesRun_396 : decode cX12_doesRun 396 = .ok (.iadd, 1) := by decide +kernel
theorem dX12_doesRun_397 : decode cX12_doesRun 397 = .ok (.iastore, 1) := by decide +kernel
theorem dX12_doesRun_398 : decode cX12_doesRun 398 = .ok (.aload_n 0, 1) := by decide +kernel
theorem dX12_doesRun_399 : decode cX12_doesRun 399 = .ok (.getfield 9, 3) := by decide +kernel
theorem dX12_doesRun_402 : decode cX12_doesRun 402 = .ok (.bipush 38, 2) := by decide +kernel
theorem dX12_doesRun_404 : decode cX12_doesRun 404 = .ok (.iload 10, 2) := by decide +kernel
theorem dX12_doesRun_406 : decode cX12_doesRun 406 = .ok (.iadd, 1) := by decide +kernel
theorem dX12_doesRun_407 : decode cX12_doesRun 407 = .ok (.dup2, 1) := by decide +kernel
theorem dX12_doesRun_408 : decode cX12_doesRun 408 = .ok (.iaload, 1) := by decide +kernel
theorem dX12_doesRun_409 : decode cX12_doesRun 409 = .ok (.iload 11, 2) := by decide +kernel
theorem dX12_doesRun_411 : decode cX12_doesRun 411 = .ok (.iload 4, 2) := by decide +kernel
theorem dX12_doesRun_413 : decode cX12_doesRun 413 = .ok (.imul, 1) := by decide +kernel
theorem dX12_doesRun_414 : decode cX12_doesRun 414 = .ok (.iadd, 1) := by decide +kernel
theorem dX12_doesRun_415 : decode cX12_doesRun 415 = .ok (.iastore, 1) := by decide +kernel
theorem dX12_doesRun_416 : decode cX12_doesRun 416 = .ok (.aload_n 0, 1) := by decide +kernel
theorem dX12_doesRun_417 : decode cX12_doesRun 417 = .ok (.getfield 9, 3) := by decide +kernel
theorem dX12_doesRun_420 : decode cX12_doesRun 420 = .ok (.sipush 157, 3) := by decide +kernel
theorem dX12_doesRun_423 : decode cX12_doesRun 423 = .ok (.iload 12, 2) := by decide +kernel
theorem dX12_doesRun_425 : decode cX12_doesRun 425 = .ok (.iadd, 1) := by decide +kernel
theorem dX12_doesRun_426 : decode cX12_doesRun 426 = .ok (.dup2, 1) := by decide +kernel
theorem dX12_doesRun_427 : decode cX12_doesRun 427 = .ok (.iaload, 1) := by decide +kernel
theorem dX12_doesRun_428 : decode cX12_doesRun 428 = .ok (.iload 11, 2) := by decide +kernel
theorem dX12_doesRun_430 : decode cX12_doesRun 430 = .ok (.iload_n 2, 1) := by decide +kernel
theorem dX12_doesRun_431 : decode cX12_doesRun 431 = .ok (.imul, 1) := by decide +kernel
theorem dX12_doesRun_432 : decode cX12_doesRun 432 = .ok (.iadd, 1) := by decide +kernel
theorem dX12_doesRun_433 : decode cX12_doesRun 433 = .ok (.iastore, 1) := by decide +kernel
theorem dX12_doesRun_434 : decode cX12_doesRun 434 = .ok (.aload_n 0, 1) := by decide +kernel
theorem dX12_doesRun_435 : decode cX12_doesRun 435 = .ok (.getfield 9, 3) := by decide +kernel
theorem dX12_doesRun_438 : decode cX12_doesRun 438 = .ok (.bipush 109, 2) := by decide +kernel
theorem dX12_doesRun_440 : decode cX12_doesRun 440 = .ok (.iload 12, 2) := by decide +kernel
theorem dX12_doesRun_442 : decode cX12_doesRun 442 = .ok (.iadd, 1) := by decide +kernel
theorem dX12_doesRun_443 : decode cX12_doesRun 443 = .ok (.dup2, 1) := by decide +kernel
theorem dX12_doesRun_444 : decode cX12_doesRun 444 = .ok (.iaload, 1) := by decide +kernel
theorem dX12_doesRun_445 : decode cX12_doesRun 445 = .ok (.aload_n 0, 1) := by decide +kernel
theorem dX12_doesRun_446 : decode cX12_doesRun 446 = .ok (.getfield 9, 3) := by decide +kernel
theorem dX12_doesRun_449 : decode cX12_doesRun 449 = .ok (.sipush 157, 3) := by decide +kernel
theorem dX12_doesRun_452 : decode cX12_doesRun 452 = .ok (.iload 12, 2) := by decide +kernel
theorem dX12_doesRun_454 : decode cX12_doesRun 454 = .ok (.iadd, 1) := by decide +kernel
theorem dX12_doesRun_455 : decode cX12_doesRun 455 = .ok (.iaload, 1) := by decide +kernel
theorem dX12_doesRun_456 : decode cX12_doesRun 456 = .ok (.aload_n 0, 1) := by decide +kernel
theorem dX12_doesRun_457 : decode cX12_doesRun 457 = .ok (.getfield 9, 3) := by decide +kernel
theorem dX12_doesRun_460 : decode cX12_doesRun 460 = .ok (.bipush 22, 2) := by decide +kernel
theorem dX12_doesRun_462 : decode cX12_doesRun 462 = .ok (.iload 10, 2) := by decide +kernel
theorem dX12_doesRun_464 : decode cX12_doesRun 464 = .ok (.iadd, 1) := by decide +kernel
theorem dX12_doesRun_465 : decode cX12_doesRun 465 = .ok (.iaload, 1) := by decide +kernel
theorem dX12_doesRun_466 : decode cX12_doesRun 466 = .ok (.idiv, 1) := by decide +kernel
theorem dX12_doesRun_467 : decode cX12_doesRun 467 = .ok (.iadd, 1) := by decide +kernel
theorem dX12_doesRun_468 : decode cX12_doesRun 468 = .ok (.iastore, 1) := by decide +kernel
theorem dX12_doesRun_469 : decode cX12_doesRun 469 = .ok (.aload_n 0, 1) := by decide +kernel
theorem dX12_doesRun_470 : decode cX12_doesRun 470 = .ok (.getfield 9, 3) := by decide +kernel
theorem dX12_doesRun_473 : decode cX12_doesRun 473 = .ok (.sipush 157, 3) := by decide +kernel
theorem dX12_doesRun_476 : decode cX12_doesRun 476 = .ok (.iload 12, 2) := by decide +kernel
theorem dX12_doesRun_478 : decode cX12_doesRun 478 = .ok (.iadd, 1) := by decide +kernel
theorem dX12_doesRun_479 : decode cX12_doesRun 479 = .ok (.dup2, 1) := by decide +kernel
theorem dX12_doesRun_480 : decode cX12_doesRun 480 = .ok (.iaload, 1) := by decide +kernel
theorem dX12_doesRun_481 : decode cX12_doesRun 481 = .ok (.aload_n 0, 1) := by decide +kernel
theorem dX12_doesRun_482 : decode cX12_doesRun 482 = .ok (.getfield 9, 3) := by decide +kernel
theorem dX12_doesRun_485 : decode cX12_doesRun 485 = .ok (.bipush 22, 2) := by decide +kernel
theorem dX12_doesRun_487 : decode cX12_doesRun 487 = .ok (.iload 10, 2) := by decide +kernel
theorem dX12_doesRun_489 : decode cX12_doesRun 489 = .ok (.iadd, 1) := by decide +kernel
theorem dX12_doesRun_490 : decode cX12_doesRun 490 = .ok (.iaload, 1) := by decide +kernel
theorem dX12_doesRun_491 : decode cX12_doesRun 491 = .ok (.irem, 1) := by decide +kernel
theorem dX12_doesRun_492 : decode cX12_doesRun 492 = .ok (.iastore, 1) := by decide +kernel
theorem dX12_doesRun_493 : decode cX12_doesRun 493 = .ok (.iinc 9 1, 3) := by decide +kernel
theorem dX12_doesRun_496 : decode cX12_doesRun 496 = .ok (.goto (-160), 3) := by decide +kernel
theorem dX12_doesRun_499 : decode cX12_doesRun 499 = .ok (.aload_n 0, 1) := by decide +kernel
theorem dX12_doesRun_500 : decode cX12_doesRun 500 = .ok (.iload 4, 2) := by decide +kernel
theorem dX12_doesRun_502 : decode cX12_doesRun 502 = .ok (.invokevirtual 79, 3) := by decide +kernel
theorem dX12_doesRun_505 : decode cX12_doesRun 505 = .ok (.ireturn, 1) := by decide +kernel
theorem dX12_doesOrder_0 : decode cX12_doesOrder 0 = .ok (.aload_n 0, 1) := by decide +kernel
theorem dX12_doesOrder_1 : decode cX12_doesOrder 1 = .ok (.iload_n 1, 1) := by decide +kernel
theorem dX12_doesOrder_2 : decode cX12_doesOrder 2 = .ok (.invokevirtual 83, 3) := by decide +kernel
theorem dX12_doesOrder_5 : decode cX12_doesOrder 5 = .ok (.ifCond .eq 11, 3) := by decide +kernel
theorem dX12_doesOrder_8 : decode cX12_doesOrder 8 = .ok (.aload_n 0, 1) := by decide +kernel
theorem dX12_doesOrder_9 : decode cX12_doesOrder 9 = .ok (.iload_n 2, 1) := by decide +kernel
theorem dX12_doesOrder_10 : decode cX12_doesOrder 10 = .ok (.invokevirtual 95, 3) := by decide +kernel
theorem dX12_doesOrder_13 : decode cX12_doesOrder 13 = .ok (.ifCond .ne 10, 3) := by decide +kernel
theorem dX12_doesOrder_16 : decode cX12_doesOrder 16 = .ok (.aload_n 0, 1) := by decide +kernel
theorem dX12_doesOrder_17 : decode cX12_doesOrder 17 = .ok (.iconst 1, 1) := by decide +kernel
theorem dX12_doesOrder_18 : decode cX12_doesOrder 18 = .ok (.iconst 0, 1) := by decide +kernel
theorem dX12_doesOrder_19 : decode cX12_doesOrder 19 = .ok (.invokevirtual 75, 3) := by decide +kernel
theorem dX12_doesOrder_22 : decode cX12_doesOrder 22 = .ok (.ireturn, 1) := by decide +kernel
theorem dX12_doesOrder_23 : decode cX12_doesOrder 23 = .ok (.iload_n 3, 1) := by decide +kernel
theorem dX12_doesOrder_24 : decode cX12_doesOrder 24 = .ok (.iconst 1, 1) := by decide +kernel
theorem dX12_doesOrder_25 : decode cX12_doesOrder 25 = .ok (.bipush 20, 2) := by decide +kernel
theorem dX12_doesOrder_27 : decode cX12_doesOrder 27 = .ok (.invokestatic 64, 3) := by decide +kernel
theorem dX12_doesOrder_30 : decode cX12_doesOrder 30 = .ok (.ifCond .eq 14, 3) := by decide +kernel
theorem dX12_doesOrder_33 : decode cX12_doesOrder 33 = .ok (.iload 4, 2) := by decide +kernel
theorem dX12_doesOrder_35 : decode cX12_doesOrder 35 = .ok (.iconst 0, 1) := by decide +kernel
theorem dX12_doesOrder_36 : decode cX12_doesOrder 36 = .ok (.bipush 99, 2) := by decide +kernel
theorem dX12_doesOrder_38 : decode cX12_doesOrder 38 = .ok (.invokestatic 64, 3) := by decide +kernel
theorem dX12_doesOrder_41 : decode cX12_doesOrder 41 = .ok (.ifCond .ne 10, 3) := by decide +kernel
theorem dX12_doesOrder_44 : decode cX12_doesOrder 44 = .ok (.aload_n 0, 1) := by decide +kernel
theorem dX12_doesOrder_45 : decode cX12_doesOrder 45 = .ok (.iconst 2, 1) := by decide +kernel
theorem dX12_doesOrder_46 : decode cX12_doesOrder 46 = .ok (.iconst 0, 1) := by decide +kernel
theorem dX12_doesOrder_47 : decode cX12_doesOrder 47 = .ok (.invokevirtual 75, 3) := by decide +kernel
theorem dX12_doesOrder_50 : decode cX12_doesOrder 50 = .ok (.ireturn, 1) := by decide +kernel
theorem dX12_doesOrder_51 : decode cX12_doesOrder 51 = .ok (.aload_n 0, 1) := by decide +kernel
theorem dX12_doesOrder_52 : decode cX12_doesOrder 52 = .ok (.getfield 9, 3) := by decide +kernel
theorem dX12_doesOrder_55 : decode cX12_doesOrder 55 = .ok (.iconst 3, 1) := by decide +kernel
theorem dX12_doesOrder_56 : decode cX12_doesOrder 56 = .ok (.iaload, 1) := by decide +kernel
theorem dX12_doesOrder_57 : decode cX12_doesOrder 57 = .ok (.bipush 10, 2) := by decide +kernel
theorem dX12_doesOrder_59 : decode cX12_doesOrder 59 = .ok (.if_icmp .ne 10, 3) := by decide +kernel
theorem dX12_doesOrder_62 : decode cX12_doesOrder 62 = .ok (.aload_n 0, 1) := by decide +kernel
theorem dX12_doesOrder_63 : decode cX12_doesOrder 63 = .ok (.iconst 3, 1) := by decide +kernel
theorem dX12_doesOrder_64 : decode cX12_doesOrder 64 = .ok (.iconst 0, 1) := by decide +kernel
theorem dX12_doesOrder_65 : decode cX12_doesOrder 65 = .ok (.invokevirtual 75, 3) := by decide +kernel
theorem dX12_doesOrder_68 : decode cX12_doesOrder 68 = .ok (.ireturn, 1) := by decide +kernel
theorem dX12_doesOrder_69 : decode cX12_doesOrder 69 = .ok (.sipush 253, 3) := by decide +kernel
theorem dX12_doesOrder_72 : decode cX12_doesOrder 72 = .ok (.bipush 6, 2) := by decide +kernel
theorem dX12_doesOrder_74 : decode cX12_doesOrder 74 = .ok (.aload_n 0, 1) := by decide +kernel
theorem dX12_doesOrder_75 : decode cX12_doesOrder 75 = .ok (.getfield 9, 3) := by decide +kernel
theorem dX12_doesOrder_78 : decode cX12_doesOrder 78 = .ok (.iconst 3, 1) := by decide +kernel
theorem dX12_doesOrder_79 : decode cX12_doesOrder 79 = .ok (.iaload, 1) := by decide +kernel
theorem dX12_doesOrder_80 : decode cX12_doesOrder 80 = .ok (.imul, 1) := by decide +kernel
theorem dX12_doesOrder_81 : decode cX12_doesOrder 81 = .ok (.iadd, 1) := by decide +kernel
theorem dX12_doesOrder_82 : decode cX12_doesOrder 82 = .ok (.istore 5, 2) := by decide +kernel
theorem dX12_doesOrder_84 : decode cX12_doesOrder 84 = .ok (.aload_n 0, 1) := by decide +kernel
theorem dX12_doesOrder_85 : decode cX12_doesOrder 85 = .ok (.getfield 9, 3) := by decide +kernel
theorem dX12_doesOrder_88 : decode cX12_doesOrder 88 = .ok (.iload 5, 2) := by decide +kernel
theorem dX12_doesOrder_90 : decode cX12_doesOrder 90 = .ok (.iload_n 1, 1) := by decide +kernel
theorem dX12_doesOrder_91 : decode cX12_doesOrder 91 = .ok (.iastore, 1) := by decide +kernel
theorem dX12_doesOrder_92 : decode cX12_doesOrder 92 = .ok (.aload_n 0, 1) := by decide +kernel
theorem dX12_doesOrder_93 : decode cX12_doesOrder 93 = .ok (.getfield 9, 3) := by decide +kernel
theorem dX12_doesOrder_96 : decode cX12_doesOrder 96 = .ok (.iload 5, 2) := by decide +kernel
theorem dX12_doesOrder_98 : decode cX12_doesOrder 98 = .ok (.iconst 1, 1) := by decide +kernel
theorem dX12_doesOrder_99 : decode cX12_doesOrder 99 = .ok (.iadd, 1) := by decide +kernel
theorem dX12_doesOrder_100 : decode cX12_doesOrder 100 = .ok (.iload_n 2, 1) := by decide +kernel
theorem dX12_doesOrder_101 : decode cX12_doesOrder 101 = .ok (.iastore, 1) := by decide +kernel
theorem dX12_doesOrder_102 : decode cX12_doesOrder 102 = .ok (.aload_n 0, 1) := by decide +kernel
theorem dX12_doesOrder_103 : decode cX12_doesOrder 103 = .ok (.getfield 9, 3) := by decide +kernel
theorem dX12_doesOrder_106 : decode cX12_doesOrder 106 = .ok (.iload 5, 2) := by decide +kernel
theorem dX12_doesOrder_108 : decode cX12_doesOrder 108 = .ok (.iconst 2, 1) := by decide +kernel
theorem dX12_doesOrder_109 : decode cX12_doesOrder 109 = .ok (.iadd, 1) := by decide +kernel
theorem dX12_doesOrder_110 : decode cX12_doesOrder 110 = .ok (.iload_n 3, 1) := by decide +kernel
theorem dX12_doesOrder_111 : decode cX12_doesOrder 111 = .ok (.iastore, 1) := by decide +kernel
theorem dX12_doesOrder_112 : decode cX12_doesOrder 112 = .ok (.aload_n 0, 1) := by decide +kernel
theorem dX12_doesOrder_113 : decode cX12_doesOrder 113 = .ok (.getfield 9, 3) := by decide +kernel
theorem dX12_doesOrder_116 : decode cX12_doesOrder 116 = .ok (.iload 5, 2) := by decide +kernel
theorem dX12_doesOrder_118 : decode cX12_doesOrder 118 = .ok (.iconst 3, 1) := by decide +kernel
theorem dX12_doesOrder_119 : decode cX12_doesOrder 119 = .ok (.iadd, 1) := by decide +kernel
theorem dX12_doesOrder_120 : decode cX12_doesOrder 120 = .ok (.iload 4, 2) := by decide +kernel
theorem dX12_doesOrder_122 : decode cX12_doesOrder 122 = .ok (.iastore, 1) := by decide +kernel
theorem dX12_doesOrder_123 : decode cX12_doesOrder 123 = .ok (.aload_n 0, 1) := by decide +kernel
theorem dX12_doesOrder_124 : decode cX12_doesOrder 124 = .ok (.getfield 9, 3) := by decide +kernel
theorem dX12_doesOrder_127 : decode cX12_doesOrder 127 = .ok (.iload 5, 2) := by decide +kernel
theorem dX12_doesOrder_129 : decode cX12_doesOrder 129 = .ok (.iconst 4, 1) := by decide +kernel
theorem dX12_doesOrder_130 : decode cX12_doesOrder 130 = .ok (.iadd, 1) := by decide +kernel
theorem dX12_doesOrder_131 : decode cX12_doesOrder 131 = .ok (.iconst 0, 1) := by decide +kernel
theorem dX12_doesOrder_132 : decode cX12_doesOrder 132 = .ok (.iastore, 1) := by decide +kernel
theorem dX12_doesOrder_133 : decode cX12_doesOrder 133 = .ok (.aload_n 0, 1) := by decide +kernel
theorem dX12_doesOrder_134 : decode cX12_doesOrder 134 = .ok (.getfield 9, 3) := by decide +kernel
theorem dX12_doesOrder_137 : decode cX12_doesOrder 137 = .ok (.iload 5, 2) := by decide +kernel
theorem dX12_doesOrder_139 : decode cX12_doesOrder 139 = .ok (.iconst 5, 1) := by decide +kernel
theorem dX12_doesOrder_140 : decode cX12_doesOrder 140 = .ok (.iadd, 1) := by decide +kernel
theorem dX12_doesOrder_141 : decode cX12_doesOrder 141 = .ok (.iconst 0, 1) := by decide +kernel
theorem dX12_doesOrder_142 : decode cX12_doesOrder 142 = .ok (.iastore, 1) := by decide +kernel
theorem dX12_doesOrder_143 : decode cX12_doesOrder 143 = .ok (.aload_n 0, 1) := by decide +kernel
theorem dX12_doesOrder_144 : decode cX12_doesOrder 144 = .ok (.aload_n 0, 1) := by decide +kernel
theorem dX12_doesOrder_145 : decode cX12_doesOrder 145 = .ok (.getfield 9, 3) := by decide +kernel
theorem dX12_doesOrder_148 : decode cX12_doesOrder 148 = .ok (.iconst 3, 1) := by decide +kernel
theorem dX12_doesOrder_149 : decode cX12_doesOrder 149 = .ok (.dup2, 1) := by decide +kernel
theorem dX12_doesOrder_150 : decode cX12_doesOrder 150 = .ok (.iaload, 1) := by decide +kernel
theorem dX12_doesOrder_151 : decode cX12_doesOrder 151 = .ok (.dup_x2, 1) := by decide +kernel
theorem dX12_doesOrder_152 : decode cX12_doesOrder 152 = .ok (.iconst 1, 1) := by decide +kernel
theorem dX12_doesOrder_153 : decode cX12_doesOrder 153 = .ok (.iadd, 1) := by decide +kernel
theorem dX12_doesOrder_154 : decode cX12_doesOrder 154 = .ok (.iastore, 1) := by decide +kernel
theorem dX12_doesOrder_155 : decode cX12_doesOrder 155 = .ok (.invokevirtual 79, 3) := by decide +kernel
theorem dX12_doesOrder_158 : decode cX12_doesOrder 158 = .ok (.ireturn, 1) := by decide +kernel
theorem dX12_opens_0 : decode cX12_opens 0 = .ok (.iconst 0, 1) := by decide +kernel
theorem dX12_opens_1 : decode cX12_opens 1 = .ok (.istore_n 1, 1) := by decide +kernel
theorem dX12_opens_2 : decode cX12_opens 2 = .ok (.iconst 0, 1) := by decide +kernel
theorem dX12_opens_3 : decode cX12_opens 3 = .ok (.istore_n 2, 1) := by decide +kernel
theorem dX12_opens_4 : decode cX12_opens 4 = .ok (.iload_n 2, 1) := by decide +kernel
theorem dX12_opens_5 : decode cX12_opens 5 = .ok (.aload_n 0, 1) := by decide +kernel
theorem dX12_opens_6 : decode cX12_opens 6 = .ok (.getfield 9, 3) := by decide +kernel
theorem dX12_opens_9 : decode cX12_opens 9 = .ok (.iconst 3, 1) := by decide +kernel
theorem dX12_opens_10 : decode cX12_opens 10 = .ok (.iaload, 1) := by decide +kernel
theorem dX12_opens_11 : decode cX12_opens 11 = .ok (.if_icmp .ge 21, 3) := by decide +kernel
theorem dX12_opens_14 : decode cX12_opens 14 = .ok (.aload_n 0, 1) := by decide +kernel
theorem dX12_opens_15 : decode cX12_opens 15 = .ok (.iload_n 2, 1) := by decide +kernel
theorem dX12_opens_16 : decode cX12_opens 16 = .ok (.iconst 4, 1) := by decide +kernel
theorem dX12_opens_17 : decode cX12_opens 17 = .ok (.invokevirtual 118, 3) := by decide +kernel
theorem dX12_opens_20 : decode cX12_opens 20 = .ok (.ifCond .ne 6, 3) := by decide +kernel
theorem dX12_opens_23 : decode cX12_opens 23 = .ok (.iinc 1 1, 3) := by decide +kernel
theorem dX12_opens_26 : decode cX12_opens 26 = .ok (.iinc 2 1, 3) := by decide +kernel
theorem dX12_opens_29 : decode cX12_opens 29 = .ok (.goto (-25), 3) := by decide +kernel
theorem dX12_opens_32 : decode cX12_opens 32 = .ok (.iload_n 1, 1) := by decide +kernel
theorem dX12_opens_33 : decode cX12_opens 33 = .ok (.ireturn, 1) := by decide +kernel
theorem dX12_doesCallOff_0 : decode cX12_doesCallOff 0 = .ok (.aload_n 0, 1) := by decide +kernel
theorem dX12_doesCallOff_1 : decode cX12_doesCallOff 1 = .ok (.iload_n 1, 1) := by decide +kernel
theorem dX12_doesCallOff_2 : decode cX12_doesCallOff 2 = .ok (.invokevirtual 121, 3) := by decide +kernel
theorem dX12_doesCallOff_5 : decode cX12_doesCallOff 5 = .ok (.ifCond .ne 10, 3) := by decide +kernel
theorem dX12_doesCallOff_8 : decode cX12_doesCallOff 8 = .ok (.aload_n 0, 1) := by decide +kernel
theorem dX12_doesCallOff_9 : decode cX12_doesCallOff 9 = .ok (.iconst 1, 1) := by decide +kernel
theorem dX12_doesCallOff_10 : decode cX12_doesCallOff 10 = .ok (.iconst 0, 1) := by decide +kernel
theorem dX12_doesCallOff_11 : decode cX12_doesCallOff 11 = .ok (.invokevirtual 75, 3) := by decide +kernel
theorem dX12_doesCallOff_14 : decode cX12_doesCallOff 14 = .ok (.ireturn, 1) := by decide +kernel
theorem dX12_doesCallOff_15 : decode cX12_doesCallOff 15 = .ok (.aload_n 0, 1) := by decide +kernel
theorem dX12_doesCallOff_16 : decode cX12_doesCallOff 16 = .ok (.iload_n 1, 1) := by decide +kernel
theorem dX12_doesCallOff_17 : decode cX12_doesCallOff 17 = .ok (.iconst 4, 1) := by decide +kernel
theorem dX12_doesCallOff_18 : decode cX12_doesCallOff 18 = .ok (.invokevirtual 118, 3) := by decide +kernel
theorem dX12_doesCallOff_21 : decode cX12_doesCallOff 21 = .ok (.ifCond .eq 11, 3) := by decide +kernel
theorem dX12_doesCallOff_24 : decode cX12_doesCallOff 24 = .ok (.aload_n 0, 1) := by decide +kernel
theorem dX12_doesCallOff_25 : decode cX12_doesCallOff 25 = .ok (.bipush 9, 2) := by decide +kernel
theorem dX12_doesCallOff_27 : decode cX12_doesCallOff 27 = .ok (.iconst 0, 1) := by decide +kernel
theorem dX12_doesCallOff_28 : decode cX12_doesCallOff 28 = .ok (.invokevirtual 75, 3) := by decide +kernel
theorem dX12_doesCallOff_31 : decode cX12_doesCallOff 31 = .ok (.ireturn, 1) := by decide +kernel
theorem dX12_doesCallOff_32 : decode cX12_doesCallOff 32 = .ok (.aload_n 0, 1) := by decide +kernel
theorem dX12_doesCallOff_33 : decode cX12_doesCallOff 33 = .ok (.getfield 9, 3) := by decide +kernel
theorem dX12_doesCallOff_36 : decode cX12_doesCallOff 36 = .ok (.sipush 253, 3) := by decide +kernel
theorem dX12_doesCallOff_39 : decode cX12_doesCallOff 39 = .ok (.bipush 6, 2) := by decide +kernel
theorem dX12_doesCallOff_41 : decode cX12_doesCallOff 41 = .ok (.iload_n 1, 1) := by decide +kernel
theorem dX12_doesCallOff_42 : decode cX12_doesCallOff 42 = .ok (.imul, 1) := by decide +kernel
theorem dX12_doesCallOff_43 : decode cX12_doesCallOff 43 = .ok (.iadd, 1) := by decide +kernel
theorem dX12_doesCallOff_44 : decode cX12_doesCallOff 44 = .ok (.iconst 4, 1) := by decide +kernel
theorem dX12_doesCallOff_45 : decode cX12_doesCallOff 45 = .ok (.iadd, 1) := by decide +kernel
theorem dX12_doesCallOff_46 : decode cX12_doesCallOff 46 = .ok (.iconst 2, 1) := by decide +kernel
theorem dX12_doesCallOff_47 : decode cX12_doesCallOff 47 = .ok (.iastore, 1) := by decide +kernel
theorem dX12_doesCallOff_48 : decode cX12_doesCallOff 48 = .ok (.aload_n 0, 1) := by decide +kernel
theorem dX12_doesCallOff_49 : decode cX12_doesCallOff 49 = .ok (.aload_n 0, 1) := by decide +kernel
theorem dX12_doesCallOff_50 : decode cX12_doesCallOff 50 = .ok (.invokevirtual 124, 3) := by decide +kernel
theorem dX12_doesCallOff_53 : decode cX12_doesCallOff 53 = .ok (.invokevirtual 79, 3) := by decide +kernel
theorem dX12_doesCallOff_56 : decode cX12_doesCallOff 56 = .ok (.ireturn, 1) := by decide +kernel
theorem dX12_doesSet_0 : decode cX12_doesSet 0 = .ok (.iload_n 1, 1) := by decide +kernel
theorem dX12_doesSet_1 : decode cX12_doesSet 1 = .ok (.ifCond .ne 8, 3) := by decide +kernel
theorem dX12_doesSet_4 : decode cX12_doesSet 4 = .ok (.bipush 60, 2) := by decide +kernel
theorem dX12_doesSet_6 : decode cX12_doesSet 6 = .ok (.goto 4, 3) := by decide +kernel
theorem dX12_doesSet_9 : decode cX12_doesSet 9 = .ok (.iconst 0, 1) := by decide +kernel
theorem dX12_doesSet_10 : decode cX12_doesSet 10 = .ok (.istore_n 3, 1) := by decide +kernel
theorem dX12_doesSet_11 : decode cX12_doesSet 11 = .ok (.iload_n 1, 1) := by decide +kernel
theorem dX12_doesSet_12 : decode cX12_doesSet 12 = .ok (.ifCond .ne 9, 3) := by decide +kernel
theorem dX12_doesSet_15 : decode cX12_doesSet 15 = .ok (.sipush 9999, 3) := by decide +kernel
theorem dX12_doesSet_18 : decode cX12_doesSet 18 = .ok (.goto 25, 3) := by decide +kernel
theorem dX12_doesSet_21 : decode cX12_doesSet 21 = .ok (.iload_n 1, 1) := by decide +kernel
theorem dX12_doesSet_22 : decode cX12_doesSet 22 = .ok (.iconst 1, 1) := by decide +kernel
theorem dX12_doesSet_23 : decode cX12_doesSet 23 = .ok (.if_icmp .ne 9, 3) := by decide +kernel
theorem dX12_doesSet_26 : decode cX12_doesSet 26 = .ok (.sipush 999, 3) := by decide +kernel
theorem dX12_doesSet_29 : decode cX12_doesSet 29 = .ok (.goto 14, 3) := by decide +kernel
theorem dX12_doesSet_32 : decode cX12_doesSet 32 = .ok (.iload_n 1, 1) := by decide +kernel
theorem dX12_doesSet_33 : decode cX12_doesSet 33 = .ok (.iconst 2, 1) := by decide +kernel
theorem dX12_doesSet_34 : decode cX12_doesSet 34 = .ok (.if_icmp .ne 7, 3) := by decide +kernel
theorem dX12_doesSet_37 : decode cX12_doesSet 37 = .ok (.iconst 5, 1) := by decide +kernel
theorem dX12_doesSet_38 : decode cX12_doesSet 38 = .ok (.goto 5, 3) := by decide +kernel
theorem dX12_doesSet_41 : decode cX12_doesSet 41 = .ok (.bipush 99, 2) := by decide +kernel
theorem dX12_doesSet_43 : decode cX12_doesSet 43 = .ok (.istore 4, 2) := by decide +kernel
theorem dX12_doesSet_45 : decode cX12_doesSet 45 = .ok (.iload_n 1, 1) := by decide +kernel
theorem dX12_doesSet_46 : decode cX12_doesSet 46 = .ok (.iconst 0, 1) := by decide +kernel
theorem dX12_doesSet_47 : decode cX12_doesSet 47 = .ok (.iconst 3, 1) := by decide +kernel
theorem dX12_doesSet_48 : decode cX12_doesSet 48 = .ok (.invokestatic 64, 3) := by decide +kernel
theorem dX12_doesSet_51 : decode cX12_doesSet 51 = .ok (.ifCond .eq 13, 3) := by decide +kernel
theorem dX12_doesSet_54 : decode cX12_doesSet 54 = .ok (.iload_n 2, 1) := by decide +kernel
theorem dX12_doesSet_55 : decode cX12_doesSet 55 = .ok (.iload_n 3, 1) := by decide +kernel
theorem dX12_doesSet_56 : decode cX12_doesSet 56 = .ok (.iload 4, 2) := by decide +kernel
theorem dX12_doesSet_58 : decode cX12_doesSet 58 = .ok (.invokestatic 64, 3) := by decide +kernel
theorem dX12_doesSet_61 : decode cX12_doesSet 61 = .ok (.ifCond .ne 10, 3) := by decide +kernel
theorem dX12_doesSet_64 : decode cX12_doesSet 64 = .ok (.aload_n 0, 1) := by decide +kernel
theorem dX12_doesSet_65 : decode cX12_doesSet 65 = .ok (.iconst 2, 1) := by decide +kernel
theorem dX12_doesSet_66 : decode cX12_doesSet 66 = .ok (.iconst 0, 1) := by decide +kernel
theorem dX12_doesSet_67 : decode cX12_doesSet 67 = .ok (.invokevirtual 75, 3) := by decide +kernel
theorem dX12_doesSet_70 : decode cX12_doesSet 70 = .ok (.ireturn, 1) := by decide +kernel
theorem dX12_doesSet_71 : decode cX12_doesSet 71 = .ok (.aload_n 0, 1) := by decide +kernel
theorem dX12_doesSet_72 : decode cX12_doesSet 72 = .ok (.getfield 9, 3) := by decide +kernel
theorem dX12_doesSet_75 : decode cX12_doesSet 75 = .ok (.bipush 12, 2) := by decide +kernel
theorem dX12_doesSet_77 : decode cX12_doesSet 77 = .ok (.iload_n 1, 1) := by decide +kernel
theorem dX12_doesSet_78 : decode cX12_doesSet 78 = .ok (.iadd, 1) := by decide +kernel
theorem dX12_doesSet_79 : decode cX12_doesSet 79 = .ok (.iaload, 1) := by decide +kernel
theorem dX12_doesSet_80 : decode cX12_doesSet 80 = .ok (.istore 5, 2) := by decide +kernel
theorem dX12_doesSet_82 : decode cX12_doesSet 82 = .ok (.aload_n 0, 1) := by decide +kernel
theorem dX12_doesSet_83 : decode cX12_doesSet 83 = .ok (.getfield 9, 3) := by decide +kernel
theorem dX12_doesSet_86 : decode cX12_doesSet 86 = .ok (.bipush 12, 2) := by decide +kernel
theorem dX12_doesSet_88 : decode cX12_doesSet 88 = .ok (.iload_n 1, 1) := by decide +kernel
theorem dX12_doesSet_89 : decode cX12_doesSet 89 = .ok (.iadd, 1) := by decide +kernel
theorem dX12_doesSet_90 : decode cX12_doesSet 90 = .ok (.iload_n 2, 1) := by decide +kernel
theorem dX12_doesSet_91 : decode cX12_doesSet 91 = .ok (.iastore, 1) := by decide +kernel
theorem dX12_doesSet_92 : decode cX12_doesSet 92 = .ok (.aload_n 0, 1) := by decide +kernel
theorem dX12_doesSet_93 : decode cX12_doesSet 93 = .ok (.iload 5, 2) := by decide +kernel
theorem dX12_doesSet_95 : decode cX12_doesSet 95 = .ok (.invokevirtual 79, 3) := by decide +kernel
theorem dX12_doesSet_98 : decode cX12_doesSet 98 = .ok (.ireturn, 1) := by decide +kernel
theorem dX12_append_0 : decode cX12_append 0 = .ok (.aload_n 0, 1) := by decide +kernel
theorem dX12_append_1 : decode cX12_append 1 = .ok (.iconst 0, 1) := by decide +kernel
theorem dX12_append_2 : decode cX12_append 2 = .ok (.putfield 45, 3) := by decide +kernel
theorem dX12_append_5 : decode cX12_append 5 = .ok (.aload_n 0, 1) := by decide +kernel
theorem dX12_append_6 : decode cX12_append 6 = .ok (.getfield 128, 3) := by decide +kernel
theorem dX12_append_9 : decode cX12_append 9 = .ok (.bipush 80, 2) := by decide +kernel
theorem dX12_append_11 : decode cX12_append 11 = .ok (.if_icmp .ne 9, 3) := by decide +kernel
theorem dX12_append_14 : decode cX12_append 14 = .ok (.aload_n 0, 1) := by decide +kernel
theorem dX12_append_15 : decode cX12_append 15 = .ok (.iconst 1, 1) := by decide +kernel
theorem dX12_append_16 : decode cX12_append 16 = .ok (.invokevirtual 54, 3) := by decide +kernel
theorem dX12_append_19 : decode cX12_append 19 = .ok (.ireturn, 1) := by decide +kernel
theorem dX12_append_20 : decode cX12_append 20 = .ok (.aload_n 0, 1) := by decide +kernel
theorem dX12_append_21 : decode cX12_append 21 = .ok (.getfield 22, 3) := by decide +kernel
theorem dX12_append_24 : decode cX12_append 24 = .ok (.aload_n 0, 1) := by decide +kernel
theorem dX12_append_25 : decode cX12_append 25 = .ok (.dup, 1) := by decide +kernel
theorem dX12_append_26 : decode cX12_append 26 = .ok (.getfield 128, 3) := by decide +kernel
theorem dX12_append_29 : decode cX12_append 29 = .ok (.dup_x1, 1) := by decide +kernel
theorem dX12_append_30 : decode cX12_append 30 = .ok (.iconst 1, 1) := by decide +kernel
theorem dX12_append_31 : decode cX12_append 31 = .ok (.iadd, 1) := by decide +kernel
theorem dX12_append_32 : decode cX12_append 32 = .ok (.putfield 128, 3) := by decide +kernel
theorem dX12_append_35 : decode cX12_append 35 = .ok (.iload_n 1, 1) := by decide +kernel
theorem dX12_append_36 : decode cX12_append 36 = .ok (.castore, 1) := by decide +kernel
theorem dX12_append_37 : decode cX12_append 37 = .ok (.aload_n 0, 1) := by decide +kernel
theorem dX12_append_38 : decode cX12_append 38 = .ok (.getfield 128, 3) := by decide +kernel
theorem dX12_append_41 : decode cX12_append 41 = .ok (.ireturn, 1) := by decide +kernel
theorem dX12_colour_0 : decode cX12_colour 0 = .ok (.aload_n 0, 1) := by decide +kernel
theorem dX12_colour_1 : decode cX12_colour 1 = .ok (.invokevirtual 131, 3) := by decide +kernel
theorem dX12_colour_4 : decode cX12_colour 4 = .ok (.aload_n 0, 1) := by decide +kernel
theorem dX12_colour_5 : decode cX12_colour 5 = .ok (.aload_n 0, 1) := by decide +kernel
theorem dX12_colour_6 : decode cX12_colour 6 = .ok (.iload_n 1, 1) := by decide +kernel
theorem dX12_colour_7 : decode cX12_colour 7 = .ok (.invokevirtual 134, 3) := by decide +kernel
theorem dX12_colour_10 : decode cX12_colour 10 = .ok (.invokevirtual 137, 3) := by decide +kernel
theorem dX12_colour_13 : decode cX12_colour 13 = .ok (.ireturn, 1) := by decide +kernel
theorem dX12_part_0 : decode cX12_part 0 = .ok (.aload_n 0, 1) := by decide +kernel
theorem dX12_part_1 : decode cX12_part 1 = .ok (.invokevirtual 131, 3) := by decide +kernel
theorem dX12_part_4 : decode cX12_part 4 = .ok (.aload_n 0, 1) := by decide +kernel
theorem dX12_part_5 : decode cX12_part 5 = .ok (.aload_n 0, 1) := by decide +kernel
theorem dX12_part_6 : decode cX12_part 6 = .ok (.iload_n 1, 1) := by decide +kernel
theorem dX12_part_7 : decode cX12_part 7 = .ok (.invokevirtual 141, 3) := by decide +kernel
theorem dX12_part_10 : decode cX12_part 10 = .ok (.invokevirtual 137, 3) := by decide +kernel
theorem dX12_part_13 : decode cX12_part 13 = .ok (.ireturn, 1) := by decide +kernel
theorem dX12_mount_0 : decode cX12_mount 0 = .ok (.aload_n 0, 1) := by decide +kernel
theorem dX12_mount_1 : decode cX12_mount 1 = .ok (.invokevirtual 131, 3) := by decide +kernel
theorem dX12_mount_4 : decode cX12_mount 4 = .ok (.aload_n 0, 1) := by decide +kernel
theorem dX12_mount_5 : decode cX12_mount 5 = .ok (.aload_n 0, 1) := by decide +kernel
theorem dX12_mount_6 : decode cX12_mount 6 = .ok (.iload_n 1, 1) := by decide +kernel
theorem dX12_mount_7 : decode cX12_mount 7 = .ok (.invokevirtual 144, 3) := by decide +kernel
theorem dX12_mount_10 : decode cX12_mount 10 = .ok (.invokevirtual 137, 3) := by decide +kernel
theorem dX12_mount_13 : decode cX12_mount 13 = .ok (.ireturn, 1) := by decide +kernel
theorem dX12_load_0 : decode cX12_load 0 = .ok (.aload_n 0, 1) := by decide +kernel
theorem dX12_load_1 : decode cX12_load 1 = .ok (.invokevirtual 131, 3) := by decide +kernel
theorem dX12_load_4 : decode cX12_load 4 = .ok (.aload_n 0, 1) := by decide +kernel
theorem dX12_load_5 : decode cX12_load 5 = .ok (.aload_n 0, 1) := by decide +kernel
theorem dX12_load_6 : decode cX12_load 6 = .ok (.iload_n 1, 1) := by decide +kernel
theorem dX12_load_7 : decode cX12_load 7 = .ok (.iload_n 2, 1) := by decide +kernel
theorem dX12_load_8 : decode cX12_load 8 = .ok (.iload_n 3, 1) := by decide +kernel
theorem dX12_load_9 : decode cX12_load 9 = .ok (.invokevirtual 147, 3) := by decide +kernel
theorem dX12_load_12 : decode cX12_load 12 = .ok (.invokevirtual 137, 3) := by decide +kernel
theorem dX12_load_15 : decode cX12_load 15 = .ok (.ireturn, 1) := by decide +kernel
theorem dX12_empty_0 : decode cX12_empty 0 = .ok (.aload_n 0, 1) := by decide +kernel
theorem dX12_empty_1 : decode cX12_empty 1 = .ok (.invokevirtual 131, 3) := by decide +kernel
theorem dX12_empty_4 : decode cX12_empty 4 = .ok (.aload_n 0, 1) := by decide +kernel
theorem dX12_empty_5 : decode cX12_empty 5 = .ok (.aload_n 0, 1) := by decide +kernel
theorem dX12_empty_6 : decode cX12_empty 6 = .ok (.iload_n 1, 1) := by decide +kernel
theorem dX12_empty_7 : decode cX12_empty 7 = .ok (.invokevirtual 150, 3) := by decide +kernel
theorem dX12_empty_10 : decode cX12_empty 10 = .ok (.invokevirtual 137, 3) := by decide +kernel
theorem dX12_empty_13 : decode cX12_empty 13 = .ok (.ireturn, 1) := by decide +kernel
theorem dX12_pause_0 : decode cX12_pause 0 = .ok (.aload_n 0, 1) := by decide +kernel
theorem dX12_pause_1 : decode cX12_pause 1 = .ok (.invokevirtual 131, 3) := by decide +kernel
theorem dX12_pause_4 : decode cX12_pause 4 = .ok (.aload_n 0, 1) := by decide +kernel
theorem dX12_pause_5 : decode cX12_pause 5 = .ok (.aload_n 0, 1) := by decide +kernel
theorem dX12_pause_6 : decode cX12_pause 6 = .ok (.iload_n 1, 1) := by decide +kernel
theorem dX12_pause_7 : decode cX12_pause 7 = .ok (.invokevirtual 153, 3) := by decide +kernel
theorem dX12_pause_10 : decode cX12_pause 10 = .ok (.invokevirtual 137, 3) := by decide +kernel
theorem dX12_pause_13 : decode cX12_pause 13 = .ok (.ireturn, 1) := by decide +kernel
theorem dX12_run_0 : decode cX12_run 0 = .ok (.aload_n 0, 1) := by decide +kernel
theorem dX12_run_1 : decode cX12_run 1 = .ok (.invokevirtual 131, 3) := by decide +kernel
theorem dX12_run_4 : decode cX12_run 4 = .ok (.aload_n 0, 1) := by decide +kernel
theorem dX12_run_5 : decode cX12_run 5 = .ok (.aload_n 0, 1) := by decide +kernel
theorem dX12_run_6 : decode cX12_run 6 = .ok (.iload_n 1, 1) := by decide +kernel
theorem dX12_run_7 : decode cX12_run 7 = .ok (.iload_n 2, 1) := by decide +kernel
theorem dX12_run_8 : decode cX12_run 8 = .ok (.invokevirtual 156, 3) := by decide +kernel
theorem dX12_run_11 : decode cX12_run 11 = .ok (.invokevirtual 137, 3) := by decide +kernel
theorem dX12_run_14 : decode cX12_run 14 = .ok (.ireturn, 1) := by decide +kernel
theorem dX12_order_0 : decode cX12_order 0 = .ok (.aload_n 0, 1) := by decide +kernel
theorem dX12_order_1 : decode cX12_order 1 = .ok (.invokevirtual 131, 3) := by decide +kernel
theorem dX12_order_4 : decode cX12_order 4 = .ok (.aload_n 0, 1) := by decide +kernel
theorem dX12_order_5 : decode cX12_order 5 = .ok (.aload_n 0, 1) := by decide +kernel
theorem dX12_order_6 : decode cX12_order 6 = .ok (.iload_n 1, 1) := by decide +kernel
theorem dX12_order_7 : decode cX12_order 7 = .ok (.iload_n 2, 1) := by decide +kernel
theorem dX12_order_8 : decode cX12_order 8 = .ok (.iload_n 3, 1) := by decide +kernel
theorem dX12_order_9 : decode cX12_order 9 = .ok (.iload 4, 2) := by decide +kernel
theorem dX12_order_11 : decode cX12_order 11 = .ok (.invokevirtual 159, 3) := by decide +kernel
theorem dX12_order_14 : decode cX12_order 14 = .ok (.invokevirtual 137, 3) := by decide +kernel
theorem dX12_order_17 : decode cX12_order 17 = .ok (.ireturn, 1) := by decide +kernel
theorem dX12_callOff_0 : decode cX12_callOff 0 = .ok (.aload_n 0, 1) := by decide +kernel
theorem dX12_callOff_1 : decode cX12_callOff 1 = .ok (.invokevirtual 131, 3) := by decide +kernel
theorem dX12_callOff_4 : decode cX12_callOff 4 = .ok (.aload_n 0, 1) := by decide +kernel
theorem dX12_callOff_5 : decode cX12_callOff 5 = .ok (.aload_n 0, 1) := by decide +kernel
theorem dX12_callOff_6 : decode cX12_callOff 6 = .ok (.iload_n 1, 1) := by decide +kernel
theorem dX12_callOff_7 : decode cX12_callOff 7 = .ok (.invokevirtual 163, 3) := by decide +kernel
theorem dX12_callOff_10 : decode cX12_callOff 10 = .ok (.invokevirtual 137, 3) := by decide +kernel
theorem dX12_callOff_13 : decode cX12_callOff 13 = .ok (.ireturn, 1) := by decide +kernel
theorem dX12_set_0 : decode cX12_set 0 = .ok (.aload_n 0, 1) := by decide +kernel
theorem dX12_set_1 : decode cX12_set 1 = .ok (.invokevirtual 131, 3) := by decide +kernel
theorem dX12_set_4 : decode cX12_set 4 = .ok (.aload_n 0, 1) := by decide +kernel
theorem dX12_set_5 : decode cX12_set 5 = .ok (.aload_n 0, 1) := by decide +kernel
theorem dX12_set_6 : decode cX12_set 6 = .ok (.iload_n 1, 1) := by decide +kernel
theorem dX12_set_7 : decode cX12_set 7 = .ok (.iload_n 2, 1) := by decide +kernel
theorem dX12_set_8 : decode cX12_set 8 = .ok (.invokevirtual 166, 3) := by decide +kernel
theorem dX12_set_11 : decode cX12_set 11 = .ok (.invokevirtual 137, 3) := by decide +kernel
theorem dX12_set_14 : decode cX12_set 14 = .ok (.ireturn, 1) := by decide +kernel
theorem dX12_takes_0 : decode cX12_takes 0 = .ok (.aload_n 0, 1) := by decide +kernel
theorem dX12_takes_1 : decode cX12_takes 1 = .ok (.getfield 169, 3) := by decide +kernel
theorem dX12_takes_4 : decode cX12_takes 4 = .ok (.aload_n 0, 1) := by decide +kernel
theorem dX12_takes_5 : decode cX12_takes 5 = .ok (.getfield 128, 3) := by decide +kernel
theorem dX12_takes_8 : decode cX12_takes 8 = .ok (.if_icmp .eq 16, 3) := by decide +kernel
theorem dX12_takes_11 : decode cX12_takes 11 = .ok (.aload_n 0, 1) := by decide +kernel
theorem dX12_takes_12 : decode cX12_takes 12 = .ok (.getfield 22, 3) := by decide +kernel
theorem dX12_takes_15 : decode cX12_takes 15 = .ok (.aload_n 0, 1) := by decide +kernel
theorem dX12_takes_16 : decode cX12_takes 16 = .ok (.getfield 169, 3) := by decide +kernel
theorem dX12_takes_19 : decode cX12_takes 19 = .ok (.caload, 1) := by decide +kernel
theorem dX12_takes_20 : decode cX12_takes 20 = .ok (.iload_n 1, 1) := by decide +kernel
theorem dX12_takes_21 : decode cX12_takes 21 = .ok (.if_icmp .eq 5, 3) := by decide +kernel
theorem dX12_takes_24 : decode cX12_takes 24 = .ok (.iconst 0, 1) := by decide +kernel
theorem dX12_takes_25 : decode cX12_takes 25 = .ok (.ireturn, 1) := by decide +kernel
theorem dX12_takes_26 : decode cX12_takes 26 = .ok (.aload_n 0, 1) := by decide +kernel
theorem dX12_takes_27 : decode cX12_takes 27 = .ok (.dup, 1) := by decide +kernel
theorem dX12_takes_28 : decode cX12_takes 28 = .ok (.getfield 169, 3) := by decide +kernel
theorem dX12_takes_31 : decode cX12_takes 31 = .ok (.iconst 1, 1) := by decide +kernel
theorem dX12_takes_32 : decode cX12_takes 32 = .ok (.iadd, 1) := by decide +kernel
theorem dX12_takes_33 : decode cX12_takes 33 = .ok (.putfield 169, 3) := by decide +kernel
theorem dX12_takes_36 : decode cX12_takes 36 = .ok (.iconst 1, 1) := by decide +kernel
theorem dX12_takes_37 : decode cX12_takes 37 = .ok (.ireturn, 1) := by decide +kernel
theorem dX12_number_0 : decode cX12_number 0 = .ok (.iconst 0, 1) := by decide +kernel
theorem dX12_number_1 : decode cX12_number 1 = .ok (.istore_n 3, 1) := by decide +kernel
theorem dX12_number_2 : decode cX12_number 2 = .ok (.iconst 0, 1) := by decide +kernel
theorem dX12_number_3 : decode cX12_number 3 = .ok (.istore 4, 2) := by decide +kernel
theorem dX12_number_5 : decode cX12_number 5 = .ok (.iload_n 3, 1) := by decide +kernel
theorem dX12_number_6 : decode cX12_number 6 = .ok (.iload_n 2, 1) := by decide +kernel
theorem dX12_number_7 : decode cX12_number 7 = .ok (.if_icmp .ge 69, 3) := by decide +kernel
theorem dX12_number_10 : decode cX12_number 10 = .ok (.aload_n 0, 1) := by decide +kernel
theorem dX12_number_11 : decode cX12_number 11 = .ok (.getfield 169, 3) := by decide +kernel
theorem dX12_number_14 : decode cX12_number 14 = .ok (.aload_n 0, 1) := by decide +kernel
theorem dX12_number_15 : decode cX12_number 15 = .ok (.getfield 128, 3) := by decide +kernel
theorem dX12_number_18 : decode cX12_number 18 = .ok (.if_icmp .ge 58, 3) := by decide +kernel
theorem dX12_number_21 : decode cX12_number 21 = .ok (.aload_n 0, 1) := by decide +kernel
theorem dX12_number_22 : decode cX12_number 22 = .ok (.getfield 22, 3) := by decide +kernel
theorem dX12_number_25 : decode cX12_number 25 = .ok (.aload_n 0, 1) := by decide +kernel
theorem dX12_number_26 : decode cX12_number 26 = .ok (.getfield 169, 3) := by decide +kernel
theorem dX12_number_29 : decode cX12_number 29 = .ok (.caload, 1) := by decide +kernel
theorem dX12_number_30 : decode cX12_number 30 = .ok (.bipush 48, 2) := by decide +kernel
theorem dX12_number_32 : decode cX12_number 32 = .ok (.bipush 57, 2) := by decide +kernel
theorem dX12_number_34 : decode cX12_number 34 = .ok (.invokestatic 64, 3) := by decide +kernel
theorem dX12_number_37 : decode cX12_number 37 = .ok (.ifCond .eq 39, 3) := by decide +kernel
theorem dX12_number_40 : decode cX12_number 40 = .ok (.bipush 10, 2) := by decide +kernel
theorem dX12_number_42 : decode cX12_number 42 = .ok (.iload 4, 2) := by decide +kernel
theorem dX12_number_44 : decode cX12_number 44 = .ok (.imul, 1) := by decide +kernel
theorem dX12_number_45 : decode cX12_number 45 = .ok (.aload_n 0, 1) := by decide +kernel
theorem dX12_number_46 : decode cX12_number 46 = .ok (.getfield 22, 3) := by decide +kernel
theorem dX12_number_49 : decode cX12_number 49 = .ok (.aload_n 0, 1) := by decide +kernel
theorem dX12_number_50 : decode cX12_number 50 = .ok (.getfield 169, 3) := by decide +kernel
theorem dX12_number_53 : decode cX12_number 53 = .ok (.caload, 1) := by decide +kernel
theorem dX12_number_54 : decode cX12_number 54 = .ok (.iadd, 1) := by decide +kernel
theorem dX12_number_55 : decode cX12_number 55 = .ok (.bipush 48, 2) := by decide +kernel
theorem dX12_number_57 : decode cX12_number 57 = .ok (.isub, 1) := by decide +kernel
theorem dX12_number_58 : decode cX12_number 58 = .ok (.istore 4, 2) := by decide +kernel
theorem dX12_number_60 : decode cX12_number 60 = .ok (.aload_n 0, 1) := by decide +kernel
theorem dX12_number_61 : decode cX12_number 61 = .ok (.dup, 1) := by decide +kernel
theorem dX12_number_62 : decode cX12_number 62 = .ok (.getfield 169, 3) := by decide +kernel
theorem dX12_number_65 : decode cX12_number 65 = .ok (.iconst 1, 1) := by decide +kernel
theorem dX12_number_66 : decode cX12_number 66 = .ok (.iadd, 1) := by decide +kernel
theorem dX12_number_67 : decode cX12_number 67 = .ok (.putfield 169, 3) := by decide +kernel
theorem dX12_number_70 : decode cX12_number 70 = .ok (.iinc 3 1, 3) := by decide +kernel
theorem dX12_number_73 : decode cX12_number 73 = .ok (.goto (-68), 3) := by decide +kernel
theorem dX12_number_76 : decode cX12_number 76 = .ok (.aload_n 0, 1) := by decide +kernel
theorem dX12_number_77 : decode cX12_number 77 = .ok (.getfield 36, 3) := by decide +kernel
theorem dX12_number_80 : decode cX12_number 80 = .ok (.iload_n 1, 1) := by decide +kernel
theorem dX12_number_81 : decode cX12_number 81 = .ok (.iload 4, 2) := by decide +kernel
theorem dX12_number_83 : decode cX12_number 83 = .ok (.iastore, 1) := by decide +kernel
theorem dX12_number_84 : decode cX12_number 84 = .ok (.iload_n 3, 1) := by decide +kernel
theorem dX12_number_85 : decode cX12_number 85 = .ok (.ifCond .le 7, 3) := by decide +kernel
theorem dX12_number_88 : decode cX12_number 88 = .ok (.iconst 1, 1) := by decide +kernel
theorem dX12_number_89 : decode cX12_number 89 = .ok (.goto 4, 3) := by decide +kernel
theorem dX12_number_92 : decode cX12_number 92 = .ok (.iconst 0, 1) := by decide +kernel
theorem dX12_number_93 : decode cX12_number 93 = .ok (.ireturn, 1) := by decide +kernel
theorem dX12_isFamilyText_0 : decode cX12_isFamilyText 0 = .ok (.aload_n 0, 1) := by decide +kernel
theorem dX12_isFamilyText_1 : decode cX12_isFamilyText 1 = .ok (.iconst 0, 1) := by decide +kernel
theorem dX12_isFamilyText_2 : decode cX12_isFamilyText 2 = .ok (.iconst 2, 1) := by decide +kernel
theorem dX12_isFamilyText_3 : decode cX12_isFamilyText 3 = .ok (.invokevirtual 172, 3) := by decide +kernel
theorem dX12_isFamilyText_6 : decode cX12_isFamilyText 6 = .ok (.ifCond .eq 21, 3) := by decide +kernel
theorem dX12_isFamilyText_9 : decode cX12_isFamilyText 9 = .ok (.aload_n 0, 1) := by decide +kernel
theorem dX12_isFamilyText_10 : decode cX12_isFamilyText 10 = .ok (.bipush 32, 2) := by decide +kernel
theorem dX12_isFamilyText_12 : decode cX12_isFamilyText 12 = .ok (.invokevirtual 175, 3) := by decide +kernel
theorem dX12_isFamilyText_15 : decode cX12_isFamilyText 15 = .ok (.ifCond .eq 12, 3) := by decide +kernel
theorem dX12_isFamilyText_18 : decode cX12_isFamilyText 18 = .ok (.aload_n 0, 1) := by decide +kernel
theorem dX12_isFamilyText_19 : decode cX12_isFamilyText 19 = .ok (.iconst 1, 1) := by decide +kernel
theorem dX12_isFamilyText_20 : decode cX12_isFamilyText 20 = .ok (.iconst 3, 1) := by decide +kernel
theorem dX12_isFamilyText_21 : decode cX12_isFamilyText 21 = .ok (.invokevirtual 172, 3) := by decide +kernel
theorem dX12_isFamilyText_24 : decode cX12_isFamilyText 24 = .ok (.ifCond .ne 5, 3) := by decide +kernel
theorem dX12_isFamilyText_27 : decode cX12_isFamilyText 27 = .ok (.iconst 0, 1) := by decide +kernel
theorem dX12_isFamilyText_28 : decode cX12_isFamilyText 28 = .ok (.ireturn, 1) := by decide +kernel
theorem dX12_isFamilyText_29 : decode cX12_isFamilyText 29 = .ok (.iconst 0, 1) := by decide +kernel
theorem dX12_isFamilyText_30 : decode cX12_isFamilyText 30 = .ok (.istore_n 1, 1) := by decide +kernel
theorem dX12_isFamilyText_31 : decode cX12_isFamilyText 31 = .ok (.iload_n 1, 1) := by decide +kernel
theorem dX12_isFamilyText_32 : decode cX12_isFamilyText 32 = .ok (.ifCond .eq 19, 3) := by decide +kernel
theorem dX12_isFamilyText_35 : decode cX12_isFamilyText 35 = .ok (.iload_n 1, 1) := by decide +kernel
theorem dX12_isFamilyText_36 : decode cX12_isFamilyText 36 = .ok (.iconst 3, 1) := by decide +kernel
theorem dX12_isFamilyText_37 : decode cX12_isFamilyText 37 = .ok (.if_icmp .ge 63, 3) := by decide +kernel
theorem dX12_isFamilyText_40 : decode cX12_isFamilyText 40 = .ok (.aload_n 0, 1) := by decide +kernel
theorem dX12_isFamilyText_41 : decode cX12_isFamilyText 41 = .ok (.getfield 169, 3) := by decide +kernel
theorem dX12_isFamilyText_44 : decode cX12_isFamilyText 44 = .ok (.aload_n 0, 1) := by decide +kernel
theorem dX12_isFamilyText_45 : decode cX12_isFamilyText 45 = .ok (.getfield 128, 3) := by decide +kernel
theorem dX12_isFamilyText_48 : decode cX12_isFamilyText 48 = .ok (.if_icmp .ge 52, 3) := by decide +kernel
theorem dX12_isFamilyText_51 : decode cX12_isFamilyText 51 = .ok (.aload_n 0, 1) := by decide +kernel
theorem dX12_isFamilyText_52 : decode cX12_isFamilyText 52 = .ok (.bipush 32, 2) := by decide +kernel
theorem dX12_isFamilyText_54 : decode cX12_isFamilyText 54 = .ok (.invokevirtual 175, 3) := by decide +kernel
theorem dX12_isFamilyText_57 : decode cX12_isFamilyText 57 = .ok (.ifCond .eq 35, 3) := by decide +kernel
theorem dX12_isFamilyText_60 : decode cX12_isFamilyText 60 = .ok (.aload_n 0, 1) := by decide +kernel
theorem dX12_isFamilyText_61 : decode cX12_isFamilyText 61 = .ok (.iconst 3, 1) := by decide +kernel
theorem dX12_isFamilyText_62 : decode cX12_isFamilyText 62 = .ok (.iload_n 1, 1) := by decide +kernel
theorem dX12_isFamilyText_63 : decode cX12_isFamilyText 63 = .ok (.iadd, 1) := by decide +kernel
theorem dX12_isFamilyText_64 : decode cX12_isFamilyText 64 = .ok (.iconst 1, 1) := by decide +kernel
theorem dX12_isFamilyText_65 : decode cX12_isFamilyText 65 = .ok (.invokevirtual 172, 3) := by decide +kernel
theorem dX12_isFamilyText_68 : decode cX12_isFamilyText 68 = .ok (.ifCond .eq 24, 3) := by decide +kernel
theorem dX12_isFamilyText_71 : decode cX12_isFamilyText 71 = .ok (.aload_n 0, 1) := by decide +kernel
theorem dX12_isFamilyText_72 : decode cX12_isFamilyText 72 = .ok (.bipush 120, 2) := by decide +kernel
theorem dX12_isFamilyText_74 : decode cX12_isFamilyText 74 = .ok (.invokevirtual 175, 3) := by decide +kernel
theorem dX12_isFamilyText_77 : decode cX12_isFamilyText 77 = .ok (.ifCond .eq 15, 3) := by decide +kernel
theorem dX12_isFamilyText_80 : decode cX12_isFamilyText 80 = .ok (.aload_n 0, 1) := by decide +kernel
theorem dX12_isFamilyText_81 : decode cX12_isFamilyText 81 = .ok (.bipush 6, 2) := by decide +kernel
theorem dX12_isFamilyText_83 : decode cX12_isFamilyText 83 = .ok (.iload_n 1, 1) := by decide +kernel
theorem dX12_isFamilyText_84 : decode cX12_isFamilyText 84 = .ok (.iadd, 1) := by decide +kernel
theorem dX12_isFamilyText_85 : decode cX12_isFamilyText 85 = .ok (.iconst 1, 1) := by decide +kernel
theorem dX12_isFamilyText_86 : decode cX12_isFamilyText 86 = .ok (.invokevirtual 172, 3) := by decide +kernel
theorem dX12_isFamilyText_89 : decode cX12_isFamilyText 89 = .ok (.ifCond .ne 5, 3) := by decide +kernel
theorem dX12_isFamilyText_92 : decode cX12_isFamilyText 92 = .ok (.iconst 0, 1) := by decide +kernel
theorem dX12_isFamilyText_93 : decode cX12_isFamilyText 93 = .ok (.ireturn, 1) := by decide +kernel
theorem dX12_isFamilyText_94 : decode cX12_isFamilyText 94 = .ok (.iinc 1 1, 3) := by decide +kernel
theorem dX12_isFamilyText_97 : decode cX12_isFamilyText 97 = .ok (.goto (-66), 3) := by decide +kernel
theorem dX12_isFamilyText_100 : decode cX12_isFamilyText 100 = .ok (.aload_n 0, 1) := by decide +kernel
theorem dX12_isFamilyText_101 : decode cX12_isFamilyText 101 = .ok (.getfield 36, 3) := by decide +kernel
theorem dX12_isFamilyText_104 : decode cX12_isFamilyText 104 = .ok (.iconst 2, 1) := by decide +kernel
theorem dX12_isFamilyText_105 : decode cX12_isFamilyText 105 = .ok (.iload_n 1, 1) := by decide +kernel
theorem dX12_isFamilyText_106 : decode cX12_isFamilyText 106 = .ok (.iastore, 1) := by decide +kernel
theorem dX12_isFamilyText_107 : decode cX12_isFamilyText 107 = .ok (.aload_n 0, 1) := by decide +kernel
theorem dX12_isFamilyText_108 : decode cX12_isFamilyText 108 = .ok (.getfield 169, 3) := by decide +kernel
theorem dX12_isFamilyText_111 : decode cX12_isFamilyText 111 = .ok (.aload_n 0, 1) := by decide +kernel
theorem dX12_isFamilyText_112 : decode cX12_isFamilyText 112 = .ok (.getfield 128, 3) := by decide +kernel
theorem dX12_isFamilyText_115 : decode cX12_isFamilyText 115 = .ok (.if_icmp .ne 7, 3) := by decide +kernel
theorem dX12_isFamilyText_118 : decode cX12_isFamilyText 118 = .ok (.iconst 1, 1) := by decide +kernel
theorem dX12_isFamilyText_119 : decode cX12_isFamilyText 119 = .ok (.goto 4, 3) := by decide +kernel
theorem dX12_isFamilyText_122 : decode cX12_isFamilyText 122 = .ok (.iconst 0, 1) := by decide +kernel
theorem dX12_isFamilyText_123 : decode cX12_isFamilyText 123 = .ok (.ireturn, 1) := by decide +kernel
theorem dX12_isCommand_0 : decode cX12_isCommand 0 = .ok (.aload_n 0, 1) := by decide +kernel
theorem dX12_isCommand_1 : decode cX12_isCommand 1 = .ok (.getfield 169, 3) := by decide +kernel
theorem dX12_isCommand_4 : decode cX12_isCommand 4 = .ok (.aload_n 0, 1) := by decide +kernel
theorem dX12_isCommand_5 : decode cX12_isCommand 5 = .ok (.getfield 128, 3) := by decide +kernel
theorem dX12_isCommand_8 : decode cX12_isCommand 8 = .ok (.if_icmp .ne 5, 3) := by decide +kernel
theorem dX12_isCommand_11 : decode cX12_isCommand 11 = .ok (.iconst 0, 1) := by decide +kernel
theorem dX12_isCommand_12 : decode cX12_isCommand 12 = .ok (.ireturn, 1) := by decide +kernel
theorem dX12_isCommand_13 : decode cX12_isCommand 13 = .ok (.aload_n 0, 1) := by decide +kernel
theorem dX12_isCommand_14 : decode cX12_isCommand 14 = .ok (.getfield 22, 3) := by decide +kernel
theorem dX12_isCommand_17 : decode cX12_isCommand 17 = .ok (.aload_n 0, 1) := by decide +kernel
theorem dX12_isCommand_18 : decode cX12_isCommand 18 = .ok (.getfield 169, 3) := by decide +kernel
theorem dX12_isCommand_21 : decode cX12_isCommand 21 = .ok (.caload, 1) := by decide +kernel
theorem dX12_isCommand_22 : decode cX12_isCommand 22 = .ok (.istore_n 2, 1) := by decide +kernel
theorem dX12_isCommand_23 : decode cX12_isCommand 23 = .ok (.iload_n 2, 1) := by decide +kernel
theorem dX12_isCommand_24 : decode cX12_isCommand 24 = .ok (.bipush 109, 2) := by decide +kernel
theorem dX12_isCommand_26 : decode cX12_isCommand 26 = .ok (.if_icmp .eq 23, 3) := by decide +kernel
theorem dX12_isCommand_29 : decode cX12_isCommand 29 = .ok (.iload_n 2, 1) := by decide +kernel
theorem dX12_isCommand_30 : decode cX12_isCommand 30 = .ok (.bipush 114, 2) := by decide +kernel
theorem dX12_isCommand_32 : decode cX12_isCommand 32 = .ok (.if_icmp .eq 17, 3) := by decide +kernel
theorem dX12_isCommand_35 : decode cX12_isCommand 35 = .ok (.iload_n 2, 1) := by decide +kernel
theorem dX12_isCommand_36 : decode cX12_isCommand 36 = .ok (.bipush 119, 2) := by decide +kernel
theorem dX12_isCommand_38 : decode cX12_isCommand 38 = .ok (.if_icmp .eq 11, 3) := by decide +kernel
theorem dX12_isCommand_41 : decode cX12_isCommand 41 = .ok (.iload_n 2, 1) := by decide +kernel
theorem dX12_isCommand_42 : decode cX12_isCommand 42 = .ok (.bipush 108, 2) := by decide +kernel
theorem dX12_isCommand_44 : decode cX12_isCommand 44 = .ok (.if_icmp .eq 5, 3) := by decide +kernel
theorem dX12_isCommand_47 : decode cX12_isCommand 47 = .ok (.iconst 0, 1) := by decide +kernel
theorem dX12_isCommand_48 : decode cX12_isCommand 48 = .ok (.ireturn, 1) := by decide +kernel
theorem dX12_isCommand_49 : decode cX12_isCommand 49 = .ok (.aload_n 0, 1) := by decide +kernel
theorem dX12_isCommand_50 : decode cX12_isCommand 50 = .ok (.dup, 1) := by decide +kernel
theorem dX12_isCommand_51 : decode cX12_isCommand 51 = .ok (.getfield 169, 3) := by decide +kernel
theorem dX12_isCommand_54 : decode cX12_isCommand 54 = .ok (.iconst 1, 1) := by decide +kernel
theorem dX12_isCommand_55 : decode cX12_isCommand 55 = .ok (.iadd, 1) := by decide +kernel
theorem dX12_isCommand_56 : decode cX12_isCommand 56 = .ok (.putfield 169, 3) := by decide +kernel
theorem dX12_isCommand_59 : decode cX12_isCommand 59 = .ok (.aload_n 0, 1) := by decide +kernel
theorem dX12_isCommand_60 : decode cX12_isCommand 60 = .ok (.getfield 36, 3) := by decide +kernel
theorem dX12_isCommand_63 : decode cX12_isCommand 63 = .ok (.iload_n 1, 1) := by decide +kernel
theorem dX12_isCommand_64 : decode cX12_isCommand 64 = .ok (.iload_n 2, 1) := by decide +kernel
theorem dX12_isCommand_65 : decode cX12_isCommand 65 = .ok (.iastore, 1) := by decide +kernel
theorem dX12_isCommand_66 : decode cX12_isCommand 66 = .ok (.iload_n 2, 1) := by decide +kernel
theorem dX12_isCommand_67 : decode cX12_isCommand 67 = .ok (.lookupswitch 88 #[(109, 33), (114, 42), (119, 79)], 33) := by decide +kernel
theorem dX12_isCommand_100 : decode cX12_isCommand 100 = .ok (.aload_n 0, 1) := by decide +kernel
theorem dX12_isCommand_101 : decode cX12_isCommand 101 = .ok (.iload_n 1, 1) := by decide +kernel
theorem dX12_isCommand_102 : decode cX12_isCommand 102 = .ok (.iconst 1, 1) := by decide +kernel
theorem dX12_isCommand_103 : decode cX12_isCommand 103 = .ok (.iadd, 1) := by decide +kernel
theorem dX12_isCommand_104 : decode cX12_isCommand 104 = .ok (.iconst 1, 1) := by decide +kernel
theorem dX12_isCommand_105 : decode cX12_isCommand 105 = .ok (.invokevirtual 172, 3) := by decide +kernel
theorem dX12_isCommand_108 : decode cX12_isCommand 108 = .ok (.ireturn, 1) := by decide +kernel
theorem dX12_isCommand_109 : decode cX12_isCommand 109 = .ok (.aload_n 0, 1) := by decide +kernel
theorem dX12_isCommand_110 : decode cX12_isCommand 110 = .ok (.iload_n 1, 1) := by decide +kernel
theorem dX12_isCommand_111 : decode cX12_isCommand 111 = .ok (.iconst 1, 1) := by decide +kernel
theorem dX12_isCommand_112 : decode cX12_isCommand 112 = .ok (.iadd, 1) := by decide +kernel
theorem dX12_isCommand_113 : decode cX12_isCommand 113 = .ok (.iconst 1, 1) := by decide +kernel
theorem dX12_isCommand_114 : decode cX12_isCommand 114 = .ok (.invokevirtual 172, 3) := by decide +kernel
theorem dX12_isCommand_117 : decode cX12_isCommand 117 = .ok (.ifCond .eq 27, 3) := by decide +kernel
theorem dX12_isCommand_120 : decode cX12_isCommand 120 = .ok (.aload_n 0, 1) := by decide +kernel
theorem dX12_isCommand_121 : decode cX12_isCommand 121 = .ok (.bipush 120, 2) := by decide +kernel
theorem dX12_isCommand_123 : decode cX12_isCommand 123 = .ok (.invokevirtual 175, 3) := by decide +kernel
theorem dX12_isCommand_126 : decode cX12_isCommand 126 = .ok (.ifCond .eq 18, 3) := by decide +kernel
theorem dX12_isCommand_129 : decode cX12_isCommand 129 = .ok (.aload_n 0, 1) := by decide +kernel
theorem dX12_isCommand_130 : decode cX12_isCommand 130 = .ok (.iload_n 1, 1) := by decide +kernel
theorem dX12_isCommand_131 : decode cX12_isCommand 131 = .ok (.iconst 2, 1) := by decide +kernel
theorem dX12_isCommand_132 : decode cX12_isCommand 132 = .ok (.iadd, 1) := by decide +kernel
theorem dX12_isCommand_133 : decode cX12_isCommand 133 = .ok (.iconst 3, 1) := by decide +kernel
theorem dX12_isCommand_134 : decode cX12_isCommand 134 = .ok (.invokevirtual 172, 3) := by decide +kernel
theorem dX12_isCommand_137 : decode cX12_isCommand 137 = .ok (.ifCond .eq 7, 3) := by decide +kernel
theorem dX12_isCommand_140 : decode cX12_isCommand 140 = .ok (.iconst 1, 1) := by decide +kernel
theorem dX12_isCommand_141 : decode cX12_isCommand 141 = .ok (.goto 4, 3) := by decide +kernel
theorem dX12_isCommand_144 : decode cX12_isCommand 144 = .ok (.iconst 0, 1) := by decide +kernel
theorem dX12_isCommand_145 : decode cX12_isCommand 145 = .ok (.ireturn, 1) := by decide +kernel
theorem dX12_isCommand_146 : decode cX12_isCommand 146 = .ok (.aload_n 0, 1) := by decide +kernel
theorem dX12_isCommand_147 : decode cX12_isCommand 147 = .ok (.iload_n 1, 1) := by decide +kernel
theorem dX12_isCommand_148 : decode cX12_isCommand 148 = .ok (.iconst 1, 1) := by decide +kernel
theorem dX12_isCommand_149 : decode cX12_isCommand 149 = .ok (.iadd, 1) := by decide +kernel
theorem dX12_isCommand_150 : decode cX12_isCommand 150 = .ok (.iconst 3, 1) := by decide +kernel
theorem dX12_isCommand_151 : decode cX12_isCommand 151 = .ok (.invokevirtual 172, 3) := by decide +kernel
theorem dX12_isCommand_154 : decode cX12_isCommand 154 = .ok (.ireturn, 1) := by decide +kernel
theorem dX12_isCommand_155 : decode cX12_isCommand 155 = .ok (.aload_n 0, 1) := by decide +kernel
theorem dX12_isCommand_156 : decode cX12_isCommand 156 = .ok (.iload_n 1, 1) := by decide +kernel
theorem dX12_isCommand_157 : decode cX12_isCommand 157 = .ok (.iconst 1, 1) := by decide +kernel
theorem dX12_isCommand_158 : decode cX12_isCommand 158 = .ok (.iadd, 1) := by decide +kernel
theorem dX12_isCommand_159 : decode cX12_isCommand 159 = .ok (.iconst 1, 1) := by decide +kernel
theorem dX12_isCommand_160 : decode cX12_isCommand 160 = .ok (.invokevirtual 172, 3) := by decide +kernel
theorem dX12_isCommand_163 : decode cX12_isCommand 163 = .ok (.ifCond .eq 38, 3) := by decide +kernel
theorem dX12_isCommand_166 : decode cX12_isCommand 166 = .ok (.aload_n 0, 1) := by decide +kernel
theorem dX12_isCommand_167 : decode cX12_isCommand 167 = .ok (.iload_n 1, 1) := by decide +kernel
theorem dX12_isCommand_168 : decode cX12_isCommand 168 = .ok (.iconst 2, 1) := by decide +kernel
theorem dX12_isCommand_169 : decode cX12_isCommand 169 = .ok (.iadd, 1) := by decide +kernel
theorem dX12_isCommand_170 : decode cX12_isCommand 170 = .ok (.iconst 1, 1) := by decide +kernel
theorem dX12_isCommand_171 : decode cX12_isCommand 171 = .ok (.invokevirtual 172, 3) := by decide +kernel
theorem dX12_isCommand_174 : decode cX12_isCommand 174 = .ok (.ifCond .eq 27, 3) := by decide +kernel
theorem dX12_isCommand_177 : decode cX12_isCommand 177 = .ok (.aload_n 0, 1) := by decide +kernel
theorem dX12_isCommand_178 : decode cX12_isCommand 178 = .ok (.bipush 103, 2) := by decide +kernel
theorem dX12_isCommand_180 : decode cX12_isCommand 180 = .ok (.invokevirtual 175, 3) := by decide +kernel
theorem dX12_isCommand_183 : decode cX12_isCommand 183 = .ok (.ifCond .eq 18, 3) := by decide +kernel
theorem dX12_isCommand_186 : decode cX12_isCommand 186 = .ok (.aload_n 0, 1) := by decide +kernel
theorem dX12_isCommand_187 : decode cX12_isCommand 187 = .ok (.iload_n 1, 1) := by decide +kernel
theorem dX12_isCommand_188 : decode cX12_isCommand 188 = .ok (.iconst 3, 1) := by decide +kernel
theorem dX12_isCommand_189 : decode cX12_isCommand 189 = .ok (.iadd, 1) := by decide +kernel
theorem dX12_isCommand_190 : decode cX12_isCommand 190 = .ok (.iconst 5, 1) := by decide +kernel
theorem dX12_isCommand_191 : decode cX12_isCommand 191 = .ok (.invokevirtual 172, 3) := by decide +kernel
theorem dX12_isCommand_194 : decode cX12_isCommand 194 = .ok (.ifCond .eq 7, 3) := by decide +kernel
theorem dX12_isCommand_197 : decode cX12_isCommand 197 = .ok (.iconst 1, 1) := by decide +kernel
theorem dX12_isCommand_198 : decode cX12_isCommand 198 = .ok (.goto 4, 3) := by decide +kernel
theorem dX12_isCommand_201 : decode cX12_isCommand 201 = .ok (.iconst 0, 1) := by decide +kernel
theorem dX12_isCommand_202 : decode cX12_isCommand 202 = .ok (.ireturn, 1) := by decide +kernel
theorem dX12_does_0 : decode cX12_does 0 = .ok (.aload_n 0, 1) := by decide +kernel
theorem dX12_does_1 : decode cX12_does 1 = .ok (.getfield 36, 3) := by decide +kernel
theorem dX12_does_4 : decode cX12_does 4 = .ok (.iload_n 1, 1) := by decide +kernel
theorem dX12_does_5 : decode cX12_does 5 = .ok (.iaload, 1) := by decide +kernel
theorem dX12_does_6 : decode cX12_does 6 = .ok (.lookupswitch 81 #[(109, 34), (114, 47), (119, 68)], 34) := by decide +kernel
theorem dX12_does_40 : decode cX12_does 40 = .ok (.aload_n 0, 1) := by decide +kernel
theorem dX12_does_41 : decode cX12_does 41 = .ok (.aload_n 0, 1) := by decide +kernel
theorem dX12_does_42 : decode cX12_does 42 = .ok (.getfield 36, 3) := by decide +kernel
theorem dX12_does_45 : decode cX12_does 45 = .ok (.iload_n 1, 1) := by decide +kernel
theorem dX12_does_46 : decode cX12_does 46 = .ok (.iconst 1, 1) := by decide +kernel
theorem dX12_does_47 : decode cX12_does 47 = .ok (.iadd, 1) := by decide +kernel
theorem dX12_does_48 : decode cX12_does 48 = .ok (.iaload, 1) := by decide +kernel
theorem dX12_does_49 : decode cX12_does 49 = .ok (.invokevirtual 144, 3) := by decide +kernel
theorem dX12_does_52 : decode cX12_does 52 = .ok (.ireturn, 1) := by decide +kernel
theorem dX12_does_53 : decode cX12_does 53 = .ok (.aload_n 0, 1) := by decide +kernel
theorem dX12_does_54 : decode cX12_does 54 = .ok (.aload_n 0, 1) := by decide +kernel
theorem dX12_does_55 : decode cX12_does 55 = .ok (.getfield 36, 3) := by decide +kernel
theorem dX12_does_58 : decode cX12_does 58 = .ok (.iload_n 1, 1) := by decide +kernel
theorem dX12_does_59 : decode cX12_does 59 = .ok (.iconst 1, 1) := by decide +kernel
theorem dX12_does_60 : decode cX12_does 60 = .ok (.iadd, 1) := by decide +kernel
theorem dX12_does_61 : decode cX12_does 61 = .ok (.iaload, 1) := by decide +kernel
theorem dX12_does_62 : decode cX12_does 62 = .ok (.aload_n 0, 1) := by decide +kernel
theorem dX12_does_63 : decode cX12_does 63 = .ok (.getfield 36, 3) := by decide +kernel
theorem dX12_does_66 : decode cX12_does 66 = .ok (.iload_n 1, 1) := by decide +kernel
theorem dX12_does_67 : decode cX12_does 67 = .ok (.iconst 2, 1) := by decide +kernel
theorem dX12_does_68 : decode cX12_does 68 = .ok (.iadd, 1) := by decide +kernel
theorem dX12_does_69 : decode cX12_does 69 = .ok (.iaload, 1) := by decide +kernel
theorem dX12_does_70 : decode cX12_does 70 = .ok (.invokevirtual 156, 3) := by decide +kernel
theorem dX12_does_73 : decode cX12_does 73 = .ok (.ireturn, 1) := by decide +kernel
theorem dX12_does_74 : decode cX12_does 74 = .ok (.aload_n 0, 1) := by decide +kernel
theorem dX12_does_75 : decode cX12_does 75 = .ok (.aload_n 0, 1) := by decide +kernel
theorem dX12_does_76 : decode cX12_does 76 = .ok (.getfield 36, 3) := by decide +kernel
theorem dX12_does_79 : decode cX12_does 79 = .ok (.iload_n 1, 1) := by decide +kernel
theorem dX12_does_80 : decode cX12_does 80 = .ok (.iconst 1, 1) := by decide +kernel
theorem dX12_does_81 : decode cX12_does 81 = .ok (.iadd, 1) := by decide +kernel
theorem dX12_does_82 : decode cX12_does 82 = .ok (.iaload, 1) := by decide +kernel
theorem dX12_does_83 : decode cX12_does 83 = .ok (.invokevirtual 153, 3) := by decide +kernel
theorem dX12_does_86 : decode cX12_does 86 = .ok (.ireturn, 1) := by decide +kernel
theorem dX12_does_87 : decode cX12_does 87 = .ok (.aload_n 0, 1) := by decide +kernel
theorem dX12_does_88 : decode cX12_does 88 = .ok (.aload_n 0, 1) := by decide +kernel
theorem dX12_does_89 : decode cX12_does 89 = .ok (.getfield 36, 3) := by decide +kernel
theorem dX12_does_92 : decode cX12_does 92 = .ok (.iload_n 1, 1) := by decide +kernel
theorem dX12_does_93 : decode cX12_does 93 = .ok (.iconst 1, 1) := by decide +kernel
theorem dX12_does_94 : decode cX12_does 94 = .ok (.iadd, 1) := by decide +kernel
theorem dX12_does_95 : decode cX12_does 95 = .ok (.iaload, 1) := by decide +kernel
theorem dX12_does_96 : decode cX12_does 96 = .ok (.aload_n 0, 1) := by decide +kernel
theorem dX12_does_97 : decode cX12_does 97 = .ok (.getfield 36, 3) := by decide +kernel
theorem dX12_does_100 : decode cX12_does 100 = .ok (.iload_n 1, 1) := by decide +kernel
theorem dX12_does_101 : decode cX12_does 101 = .ok (.iconst 2, 1) := by decide +kernel
theorem dX12_does_102 : decode cX12_does 102 = .ok (.iadd, 1) := by decide +kernel
theorem dX12_does_103 : decode cX12_does 103 = .ok (.iaload, 1) := by decide +kernel
theorem dX12_does_104 : decode cX12_does 104 = .ok (.aload_n 0, 1) := by decide +kernel
theorem dX12_does_105 : decode cX12_does 105 = .ok (.getfield 36, 3) := by decide +kernel
theorem dX12_does_108 : decode cX12_does 108 = .ok (.iload_n 1, 1) := by decide +kernel
theorem dX12_does_109 : decode cX12_does 109 = .ok (.iconst 3, 1) := by decide +kernel
theorem dX12_does_110 : decode cX12_does 110 = .ok (.iadd, 1) := by decide +kernel
theorem dX12_does_111 : decode cX12_does 111 = .ok (.iaload, 1) := by decide +kernel
theorem dX12_does_112 : decode cX12_does 112 = .ok (.invokevirtual 147, 3) := by decide +kernel
theorem dX12_does_115 : decode cX12_does 115 = .ok (.ireturn, 1) := by decide +kernel
theorem dX12_family_0 : decode cX12_family 0 = .ok (.aload_n 0, 1) := by decide +kernel
theorem dX12_family_1 : decode cX12_family 1 = .ok (.invokevirtual 131, 3) := by decide +kernel
theorem dX12_family_4 : decode cX12_family 4 = .ok (.aload_n 0, 1) := by decide +kernel
theorem dX12_family_5 : decode cX12_family 5 = .ok (.iconst 0, 1) := by decide +kernel
theorem dX12_family_6 : decode cX12_family 6 = .ok (.putfield 169, 3) := by decide +kernel
theorem dX12_family_9 : decode cX12_family 9 = .ok (.iconst 0, 1) := by decide +kernel
theorem dX12_family_10 : decode cX12_family 10 = .ok (.istore_n 1, 1) := by decide +kernel
theorem dX12_family_11 : decode cX12_family 11 = .ok (.iload_n 1, 1) := by decide +kernel
theorem dX12_family_12 : decode cX12_family 12 = .ok (.bipush 9, 2) := by decide +kernel
theorem dX12_family_14 : decode cX12_family 14 = .ok (.if_icmp .ge 16, 3) := by decide +kernel
theorem dX12_family_17 : decode cX12_family 17 = .ok (.aload_n 0, 1) := by decide +kernel
theorem dX12_family_18 : decode cX12_family 18 = .ok (.getfield 36, 3) := by decide +kernel
theorem dX12_family_21 : decode cX12_family 21 = .ok (.iload_n 1, 1) := by decide +kernel
theorem dX12_family_22 : decode cX12_family 22 = .ok (.iconst 0, 1) := by decide +kernel
theorem dX12_family_23 : decode cX12_family 23 = .ok (.iastore, 1) := by decide +kernel
theorem dX12_family_24 : decode cX12_family 24 = .ok (.iinc 1 1, 3) := by decide +kernel
theorem dX12_family_27 : decode cX12_family 27 = .ok (.goto (-16), 3) := by decide +kernel
theorem dX12_family_30 : decode cX12_family 30 = .ok (.aload_n 0, 1) := by decide +kernel
theorem dX12_family_31 : decode cX12_family 31 = .ok (.invokevirtual 179, 3) := by decide +kernel
theorem dX12_family_34 : decode cX12_family 34 = .ok (.istore_n 1, 1) := by decide +kernel
theorem dX12_family_35 : decode cX12_family 35 = .ok (.aload_n 0, 1) := by decide +kernel
theorem dX12_family_36 : decode cX12_family 36 = .ok (.iconst 0, 1) := by decide +kernel
theorem dX12_family_37 : decode cX12_family 37 = .ok (.putfield 128, 3) := by decide +kernel
theorem dX12_family_40 : decode cX12_family 40 = .ok (.aload_n 0, 1) := by decide +kernel
theorem dX12_family_41 : decode cX12_family 41 = .ok (.iload_n 1, 1) := by decide +kernel
theorem dX12_family_42 : decode cX12_family 42 = .ok (.ifCond .eq 7, 3) := by decide +kernel
theorem dX12_family_45 : decode cX12_family 45 = .ok (.iconst (-1), 1) := by decide +kernel
theorem dX12_family_46 : decode cX12_family 46 = .ok (.goto 7, 3) := by decide +kernel
theorem dX12_family_49 : decode cX12_family 49 = .ok (.aload_n 0, 1) := by decide +kernel
theorem dX12_family_50 : decode cX12_family 50 = .ok (.getfield 169, 3) := by decide +kernel
theorem dX12_family_53 : decode cX12_family 53 = .ok (.putfield 26, 3) := by decide +kernel
theorem dX12_family_56 : decode cX12_family 56 = .ok (.iload_n 1, 1) := by decide +kernel
theorem dX12_family_57 : decode cX12_family 57 = .ok (.ifCond .ne 9, 3) := by decide +kernel
theorem dX12_family_60 : decode cX12_family 60 = .ok (.aload_n 0, 1) := by decide +kernel
theorem dX12_family_61 : decode cX12_family 61 = .ok (.iconst 1, 1) := by decide +kernel
theorem dX12_family_62 : decode cX12_family 62 = .ok (.invokevirtual 54, 3) := by decide +kernel
theorem dX12_family_65 : decode cX12_family 65 = .ok (.ireturn, 1) := by decide +kernel
theorem dX12_family_66 : decode cX12_family 66 = .ok (.aload_n 0, 1) := by decide +kernel
theorem dX12_family_67 : decode cX12_family 67 = .ok (.invokevirtual 183, 3) := by decide +kernel
theorem dX12_family_70 : decode cX12_family 70 = .ok (.ifCond .ne 9, 3) := by decide +kernel
theorem dX12_family_73 : decode cX12_family 73 = .ok (.aload_n 0, 1) := by decide +kernel
theorem dX12_family_74 : decode cX12_family 74 = .ok (.iconst 2, 1) := by decide +kernel
theorem dX12_family_75 : decode cX12_family 75 = .ok (.invokevirtual 54, 3) := by decide +kernel
theorem dX12_family_78 : decode cX12_family 78 = .ok (.ireturn, 1) := by decide +kernel
theorem dX12_family_79 : decode cX12_family 79 = .ok (.aload_n 0, 1) := by decide +kernel
theorem dX12_family_80 : decode cX12_family 80 = .ok (.invokevirtual 58, 3) := by decide +kernel
theorem dX12_family_83 : decode cX12_family 83 = .ok (.aload_n 0, 1) := by decide +kernel
theorem dX12_family_84 : decode cX12_family 84 = .ok (.getfield 61, 3) := by decide +kernel
theorem dX12_family_87 : decode cX12_family 87 = .ok (.ireturn, 1) := by decide +kernel
theorem dX12_program_0 : decode cX12_program 0 = .ok (.aload_n 0, 1) := by decide +kernel
theorem dX12_program_1 : decode cX12_program 1 = .ok (.invokevirtual 131, 3) := by decide +kernel
theorem dX12_program_4 : decode cX12_program 4 = .ok (.aload_n 0, 1) := by decide +kernel
theorem dX12_program_5 : decode cX12_program 5 = .ok (.iconst 0, 1) := by decide +kernel
theorem dX12_program_6 : decode cX12_program 6 = .ok (.putfield 169, 3) := by decide +kernel
theorem dX12_program_9 : decode cX12_program 9 = .ok (.iconst 0, 1) := by decide +kernel
theorem dX12_program_10 : decode cX12_program 10 = .ok (.istore_n 1, 1) := by decide +kernel
theorem dX12_program_11 : decode cX12_program 11 = .ok (.aload_n 0, 1) := by decide +kernel
theorem dX12_program_12 : decode cX12_program 12 = .ok (.iconst 0, 1) := by decide +kernel
theorem dX12_program_13 : decode cX12_program 13 = .ok (.invokevirtual 186, 3) := by decide +kernel
theorem dX12_program_16 : decode cX12_program 16 = .ok (.istore_n 2, 1) := by decide +kernel
theorem dX12_program_17 : decode cX12_program 17 = .ok (.iload_n 2, 1) := by decide +kernel
theorem dX12_program_18 : decode cX12_program 18 = .ok (.ifCond .eq 45, 3) := by decide +kernel
theorem dX12_program_21 : decode cX12_program 21 = .ok (.aload_n 0, 1) := by decide +kernel
theorem dX12_program_22 : decode cX12_program 22 = .ok (.getfield 169, 3) := by decide +kernel
theorem dX12_program_25 : decode cX12_program 25 = .ok (.aload_n 0, 1) := by decide +kernel
theorem dX12_program_26 : decode cX12_program 26 = .ok (.getfield 128, 3) := by decide +kernel
theorem dX12_program_29 : decode cX12_program 29 = .ok (.if_icmp .ge 34, 3) := by decide +kernel
theorem dX12_program_32 : decode cX12_program 32 = .ok (.iinc 1 1, 3) := by decide +kernel
theorem dX12_program_35 : decode cX12_program 35 = .ok (.aload_n 0, 1) := by decide +kernel
theorem dX12_program_36 : decode cX12_program 36 = .ok (.bipush 59, 2) := by decide +kernel
theorem dX12_program_38 : decode cX12_program 38 = .ok (.invokevirtual 175, 3) := by decide +kernel
theorem dX12_program_41 : decode cX12_program 41 = .ok (.ifCond .eq 17, 3) := by decide +kernel
theorem dX12_program_44 : decode cX12_program 44 = .ok (.aload_n 0, 1) := by decide +kernel
theorem dX12_program_45 : decode cX12_program 45 = .ok (.iconst 4, 1) := by decide +kernel
theorem dX12_program_46 : decode cX12_program 46 = .ok (.iload_n 1, 1) := by decide +kernel
theorem dX12_program_47 : decode cX12_program 47 = .ok (.imul, 1) := by decide +kernel
theorem dX12_program_48 : decode cX12_program 48 = .ok (.invokevirtual 186, 3) := by decide +kernel
theorem dX12_program_51 : decode cX12_program 51 = .ok (.ifCond .eq 7, 3) := by decide +kernel
theorem dX12_program_54 : decode cX12_program 54 = .ok (.iconst 1, 1) := by decide +kernel
theorem dX12_program_55 : decode cX12_program 55 = .ok (.goto 4, 3) := by decide +kernel
theorem dX12_program_58 : decode cX12_program 58 = .ok (.iconst 0, 1) := by decide +kernel
theorem dX12_program_59 : decode cX12_program 59 = .ok (.istore_n 2, 1) := by decide +kernel
theorem dX12_program_60 : decode cX12_program 60 = .ok (.goto (-43), 3) := by decide +kernel
theorem dX12_program_63 : decode cX12_program 63 = .ok (.iinc 1 1, 3) := by decide +kernel
theorem dX12_program_66 : decode cX12_program 66 = .ok (.aload_n 0, 1) := by decide +kernel
theorem dX12_program_67 : decode cX12_program 67 = .ok (.iconst 0, 1) := by decide +kernel
theorem dX12_program_68 : decode cX12_program 68 = .ok (.putfield 128, 3) := by decide +kernel
theorem dX12_program_71 : decode cX12_program 71 = .ok (.aload_n 0, 1) := by decide +kernel
theorem dX12_program_72 : decode cX12_program 72 = .ok (.iload_n 2, 1) := by decide +kernel
theorem dX12_program_73 : decode cX12_program 73 = .ok (.ifCond .eq 7, 3) := by decide +kernel
theorem dX12_program_76 : decode cX12_program 76 = .ok (.iconst (-1), 1) := by decide +kernel
theorem dX12_program_77 : decode cX12_program 77 = .ok (.goto 7, 3) := by decide +kernel
theorem dX12_program_80 : decode cX12_program 80 = .ok (.aload_n 0, 1) := by decide +kernel
theorem dX12_program_81 : decode cX12_program 81 = .ok (.getfield 169, 3) := by decide +kernel
theorem dX12_program_84 : decode cX12_program 84 = .ok (.putfield 26, 3) := by decide +kernel
theorem dX12_program_87 : decode cX12_program 87 = .ok (.iload_n 2, 1) := by decide +kernel
theorem dX12_program_88 : decode cX12_program 88 = .ok (.ifCond .ne 9, 3) := by decide +kernel
theorem dX12_program_91 : decode cX12_program 91 = .ok (.aload_n 0, 1) := by decide +kernel
theorem dX12_program_92 : decode cX12_program 92 = .ok (.iconst 1, 1) := by decide +kernel
theorem dX12_program_93 : decode cX12_program 93 = .ok (.invokevirtual 54, 3) := by decide +kernel
theorem dX12_program_96 : decode cX12_program 96 = .ok (.ireturn, 1) := by decide +kernel
theorem dX12_program_97 : decode cX12_program 97 = .ok (.iconst 0, 1) := by decide +kernel
theorem dX12_program_98 : decode cX12_program 98 = .ok (.istore_n 3, 1) := by decide +kernel
theorem dX12_program_99 : decode cX12_program 99 = .ok (.iload_n 3, 1) := by decide +kernel
theorem dX12_program_100 : decode cX12_program 100 = .ok (.iload_n 1, 1) := by decide +kernel
theorem dX12_program_101 : decode cX12_program 101 = .ok (.if_icmp .ge 106, 3) := by decide +kernel
theorem dX12_program_104 : decode cX12_program 104 = .ok (.aload_n 0, 1) := by decide +kernel
theorem dX12_program_105 : decode cX12_program 105 = .ok (.iconst 4, 1) := by decide +kernel
theorem dX12_program_106 : decode cX12_program 106 = .ok (.iload_n 3, 1) := by decide +kernel
theorem dX12_program_107 : decode cX12_program 107 = .ok (.imul, 1) := by decide +kernel
theorem dX12_program_108 : decode cX12_program 108 = .ok (.invokevirtual 189, 3) := by decide +kernel
theorem dX12_program_111 : decode cX12_program 111 = .ok (.ifCond .eq 6, 3) := by decide +kernel
theorem dX12_program_114 : decode cX12_program 114 = .ok (.goto 87, 3) := by decide +kernel
theorem dX12_program_117 : decode cX12_program 117 = .ok (.aload_n 0, 1) := by decide +kernel
theorem dX12_program_118 : decode cX12_program 118 = .ok (.invokevirtual 192, 3) := by decide +kernel
theorem dX12_program_121 : decode cX12_program 121 = .ok (.aload_n 0, 1) := by decide +kernel
theorem dX12_program_122 : decode cX12_program 122 = .ok (.getfield 51, 3) := by decide +kernel
theorem dX12_program_125 : decode cX12_program 125 = .ok (.istore 4, 2) := by decide +kernel
theorem dX12_program_127 : decode cX12_program 127 = .ok (.iload 4, 2) := by decide +kernel
theorem dX12_program_129 : decode cX12_program 129 = .ok (.ifCond .le 41, 3) := by decide +kernel
theorem dX12_program_132 : decode cX12_program 132 = .ok (.aload_n 0, 1) := by decide +kernel
theorem dX12_program_133 : decode cX12_program 133 = .ok (.getfield 30, 3) := by decide +kernel
theorem dX12_program_136 : decode cX12_program 136 = .ok (.iload 4, 2) := by decide +kernel
theorem dX12_program_138 : decode cX12_program 138 = .ok (.aload_n 0, 1) := by decide +kernel
theorem dX12_program_139 : decode cX12_program 139 = .ok (.getfield 30, 3) := by decide +kernel
theorem dX12_program_142 : decode cX12_program 142 = .ok (.iload 4, 2) := by decide +kernel
theorem dX12_program_144 : decode cX12_program 144 = .ok (.iconst 1, 1) := by decide +kernel
theorem dX12_program_145 : decode cX12_program 145 = .ok (.isub, 1) := by decide +kernel
theorem dX12_program_146 : decode cX12_program 146 = .ok (.iaload, 1) := by decide +kernel
theorem dX12_program_147 : decode cX12_program 147 = .ok (.iastore, 1) := by decide +kernel
theorem dX12_program_148 : decode cX12_program 148 = .ok (.aload_n 0, 1) := by decide +kernel
theorem dX12_program_149 : decode cX12_program 149 = .ok (.getfield 33, 3) := by decide +kernel
theorem dX12_program_152 : decode cX12_program 152 = .ok (.iload 4, 2) := by decide +kernel
theorem dX12_program_154 : decode cX12_program 154 = .ok (.aload_n 0, 1) := by decide +kernel
theorem dX12_program_155 : decode cX12_program 155 = .ok (.getfield 33, 3) := by decide +kernel
theorem dX12_program_158 : decode cX12_program 158 = .ok (.iload 4, 2) := by decide +kernel
theorem dX12_program_160 : decode cX12_program 160 = .ok (.iconst 1, 1) := by decide +kernel
theorem dX12_program_161 : decode cX12_program 161 = .ok (.isub, 1) := by decide +kernel
theorem dX12_program_162 : decode cX12_program 162 = .ok (.iaload, 1) := by decide +kernel
theorem dX12_program_163 : decode cX12_program 163 = .ok (.iastore, 1) := by decide +kernel
theorem dX12_program_164 : decode cX12_program 164 = .ok (.iinc 4 (-1), 3) := by decide +kernel
theorem dX12_program_167 : decode cX12_program 167 = .ok (.goto (-40), 3) := by decide +kernel
theorem dX12_program_170 : decode cX12_program 170 = .ok (.aload_n 0, 1) := by decide +kernel
theorem dX12_program_171 : decode cX12_program 171 = .ok (.dup, 1) := by decide +kernel
theorem dX12_program_172 : decode cX12_program 172 = .ok (.getfield 51, 3) := by decide +kernel
theorem dX12_program_175 : decode cX12_program 175 = .ok (.iconst 1, 1) := by decide +kernel
theorem dX12_program_176 : decode cX12_program 176 = .ok (.iadd, 1) := by decide +kernel
theorem dX12_program_177 : decode cX12_program 177 = .ok (.putfield 51, 3) := by decide +kernel
theorem dX12_program_180 : decode cX12_program 180 = .ok (.aload_n 0, 1) := by decide +kernel
theorem dX12_program_181 : decode cX12_program 181 = .ok (.getfield 30, 3) := by decide +kernel
theorem dX12_program_184 : decode cX12_program 184 = .ok (.iconst 0, 1) := by decide +kernel
theorem dX12_program_185 : decode cX12_program 185 = .ok (.bipush 13, 2) := by decide +kernel
theorem dX12_program_187 : decode cX12_program 187 = .ok (.iastore, 1) := by decide +kernel
theorem dX12_program_188 : decode cX12_program 188 = .ok (.aload_n 0, 1) := by decide +kernel
theorem dX12_program_189 : decode cX12_program 189 = .ok (.getfield 33, 3) := by decide +kernel
theorem dX12_program_192 : decode cX12_program 192 = .ok (.iconst 0, 1) := by decide +kernel
theorem dX12_program_193 : decode cX12_program 193 = .ok (.iload_n 3, 1) := by decide +kernel
theorem dX12_program_194 : decode cX12_program 194 = .ok (.iastore, 1) := by decide +kernel
theorem dX12_program_195 : decode cX12_program 195 = .ok (.aload_n 0, 1) := by decide +kernel
theorem dX12_program_196 : decode cX12_program 196 = .ok (.iconst 2, 1) := by decide +kernel
theorem dX12_program_197 : decode cX12_program 197 = .ok (.invokevirtual 54, 3) := by decide +kernel
theorem dX12_program_200 : decode cX12_program 200 = .ok (.ireturn, 1) := by decide +kernel
theorem dX12_program_201 : decode cX12_program 201 = .ok (.iinc 3 1, 3) := by decide +kernel
theorem dX12_program_204 : decode cX12_program 204 = .ok (.goto (-105), 3) := by decide +kernel
theorem dX12_program_207 : decode cX12_program 207 = .ok (.aload_n 0, 1) := by decide +kernel
theorem dX12_program_208 : decode cX12_program 208 = .ok (.invokevirtual 58, 3) := by decide +kernel
theorem dX12_program_211 : decode cX12_program 211 = .ok (.iload_n 1, 1) := by decide +kernel
theorem dX12_program_212 : decode cX12_program 212 = .ok (.ireturn, 1) := by decide +kernel
theorem dX12_faultPosition_0 : decode cX12_faultPosition 0 = .ok (.aload_n 0, 1) := by decide +kernel
theorem dX12_faultPosition_1 : decode cX12_faultPosition 1 = .ok (.iconst 0, 1) := by decide +kernel
theorem dX12_faultPosition_2 : decode cX12_faultPosition 2 = .ok (.putfield 45, 3) := by decide +kernel
theorem dX12_faultPosition_5 : decode cX12_faultPosition 5 = .ok (.aload_n 0, 1) := by decide +kernel
theorem dX12_faultPosition_6 : decode cX12_faultPosition 6 = .ok (.getfield 26, 3) := by decide +kernel
theorem dX12_faultPosition_9 : decode cX12_faultPosition 9 = .ok (.ireturn, 1) := by decide +kernel
theorem dX12_purge_0 : decode cX12_purge 0 = .ok (.aload_n 0, 1) := by decide +kernel
theorem dX12_purge_1 : decode cX12_purge 1 = .ok (.iconst 0, 1) := by decide +kernel
theorem dX12_purge_2 : decode cX12_purge 2 = .ok (.putfield 45, 3) := by decide +kernel
theorem dX12_purge_5 : decode cX12_purge 5 = .ok (.aload_n 0, 1) := by decide +kernel
theorem dX12_purge_6 : decode cX12_purge 6 = .ok (.iload_n 1, 1) := by decide +kernel
theorem dX12_purge_7 : decode cX12_purge 7 = .ok (.invokevirtual 95, 3) := by decide +kernel
theorem dX12_purge_10 : decode cX12_purge 10 = .ok (.ifCond .eq 20, 3) := by decide +kernel
theorem dX12_purge_13 : decode cX12_purge 13 = .ok (.aload_n 0, 1) := by decide +kernel
theorem dX12_purge_14 : decode cX12_purge 14 = .ok (.iload_n 2, 1) := by decide +kernel
theorem dX12_purge_15 : decode cX12_purge 15 = .ok (.invokevirtual 95, 3) := by decide +kernel
theorem dX12_purge_18 : decode cX12_purge 18 = .ok (.ifCond .eq 12, 3) := by decide +kernel
theorem dX12_purge_21 : decode cX12_purge 21 = .ok (.aload_n 0, 1) := by decide +kernel
theorem dX12_purge_22 : decode cX12_purge 22 = .ok (.iload_n 1, 1) := by decide +kernel
theorem dX12_purge_23 : decode cX12_purge 23 = .ok (.iload_n 2, 1) := by decide +kernel
theorem dX12_purge_24 : decode cX12_purge 24 = .ok (.invokevirtual 108, 3) := by decide +kernel
theorem dX12_purge_27 : decode cX12_purge 27 = .ok (.goto 8, 3) := by decide +kernel
theorem dX12_purge_30 : decode cX12_purge 30 = .ok (.aload_n 0, 1) := by decide +kernel
theorem dX12_purge_31 : decode cX12_purge 31 = .ok (.iconst 1, 1) := by decide +kernel
theorem dX12_purge_32 : decode cX12_purge 32 = .ok (.invokevirtual 54, 3) := by decide +kernel
theorem dX12_purge_35 : decode cX12_purge 35 = .ok (.ireturn, 1) := by decide +kernel
theorem dX12_minutes_0 : decode cX12_minutes 0 = .ok (.aload_n 0, 1) := by decide +kernel
theorem dX12_minutes_1 : decode cX12_minutes 1 = .ok (.iconst 0, 1) := by decide +kernel
theorem dX12_minutes_2 : decode cX12_minutes 2 = .ok (.putfield 45, 3) := by decide +kernel
theorem dX12_minutes_5 : decode cX12_minutes 5 = .ok (.aload_n 0, 1) := by decide +kernel
theorem dX12_minutes_6 : decode cX12_minutes 6 = .ok (.iload_n 1, 1) := by decide +kernel
theorem dX12_minutes_7 : decode cX12_minutes 7 = .ok (.invokevirtual 95, 3) := by decide +kernel
theorem dX12_minutes_10 : decode cX12_minutes 10 = .ok (.ifCond .ne 9, 3) := by decide +kernel
theorem dX12_minutes_13 : decode cX12_minutes 13 = .ok (.aload_n 0, 1) := by decide +kernel
theorem dX12_minutes_14 : decode cX12_minutes 14 = .ok (.iconst 1, 1) := by decide +kernel
theorem dX12_minutes_15 : decode cX12_minutes 15 = .ok (.invokevirtual 54, 3) := by decide +kernel
theorem dX12_minutes_18 : decode cX12_minutes 18 = .ok (.ireturn, 1) := by decide +kernel
theorem dX12_minutes_19 : decode cX12_minutes 19 = .ok (.iload_n 2, 1) := by decide +kernel
theorem dX12_minutes_20 : decode cX12_minutes 20 = .ok (.iconst 1, 1) := by decide +kernel
theorem dX12_minutes_21 : decode cX12_minutes 21 = .ok (.sipush 200, 3) := by decide +kernel
theorem dX12_minutes_24 : decode cX12_minutes 24 = .ok (.invokestatic 64, 3) := by decide +kernel
theorem dX12_minutes_27 : decode cX12_minutes 27 = .ok (.ifCond .ne 9, 3) := by decide +kernel
theorem dX12_minutes_30 : decode cX12_minutes 30 = .ok (.aload_n 0, 1) := by decide +kernel
theorem dX12_minutes_31 : decode cX12_minutes 31 = .ok (.iconst 2, 1) := by decide +kernel
theorem dX12_minutes_32 : decode cX12_minutes 32 = .ok (.invokevirtual 54, 3) := by decide +kernel
theorem dX12_minutes_35 : decode cX12_minutes 35 = .ok (.ireturn, 1) := by decide +kernel
theorem dX12_minutes_36 : decode cX12_minutes 36 = .ok (.aload_n 0, 1) := by decide +kernel
theorem dX12_minutes_37 : decode cX12_minutes 37 = .ok (.getfield 9, 3) := by decide +kernel
theorem dX12_minutes_40 : decode cX12_minutes 40 = .ok (.iconst 4, 1) := by decide +kernel
theorem dX12_minutes_41 : decode cX12_minutes 41 = .ok (.iaload, 1) := by decide +kernel
theorem dX12_minutes_42 : decode cX12_minutes 42 = .ok (.ifCond .ge 9, 3) := by decide +kernel
theorem dX12_minutes_45 : decode cX12_minutes 45 = .ok (.aload_n 0, 1) := by decide +kernel
theorem dX12_minutes_46 : decode cX12_minutes 46 = .ok (.iconst 3, 1) := by decide +kernel
theorem dX12_minutes_47 : decode cX12_minutes 47 = .ok (.invokevirtual 54, 3) := by decide +kernel
theorem dX12_minutes_50 : decode cX12_minutes 50 = .ok (.ireturn, 1) := by decide +kernel
theorem dX12_minutes_51 : decode cX12_minutes 51 = .ok (.aload_n 0, 1) := by decide +kernel
theorem dX12_minutes_52 : decode cX12_minutes 52 = .ok (.aload_n 0, 1) := by decide +kernel
theorem dX12_minutes_53 : decode cX12_minutes 53 = .ok (.getfield 9, 3) := by decide +kernel
theorem dX12_minutes_56 : decode cX12_minutes 56 = .ok (.iconst 4, 1) := by decide +kernel
theorem dX12_minutes_57 : decode cX12_minutes 57 = .ok (.iaload, 1) := by decide +kernel
theorem dX12_minutes_58 : decode cX12_minutes 58 = .ok (.iconst 0, 1) := by decide +kernel
theorem dX12_minutes_59 : decode cX12_minutes 59 = .ok (.invokevirtual 111, 3) := by decide +kernel
theorem dX12_minutes_62 : decode cX12_minutes 62 = .ok (.aload_n 0, 1) := by decide +kernel
theorem dX12_minutes_63 : decode cX12_minutes 63 = .ok (.aload_n 0, 1) := by decide +kernel
theorem dX12_minutes_64 : decode cX12_minutes 64 = .ok (.getfield 9, 3) := by decide +kernel
theorem dX12_minutes_67 : decode cX12_minutes 67 = .ok (.iconst 5, 1) := by decide +kernel
theorem dX12_minutes_68 : decode cX12_minutes 68 = .ok (.iaload, 1) := by decide +kernel
theorem dX12_minutes_69 : decode cX12_minutes 69 = .ok (.iload_n 1, 1) := by decide +kernel
theorem dX12_minutes_70 : decode cX12_minutes 70 = .ok (.invokevirtual 108, 3) := by decide +kernel
theorem dX12_minutes_73 : decode cX12_minutes 73 = .ok (.iload_n 2, 1) := by decide +kernel
theorem dX12_minutes_74 : decode cX12_minutes 74 = .ok (.iadd, 1) := by decide +kernel
theorem dX12_minutes_75 : decode cX12_minutes 75 = .ok (.imul, 1) := by decide +kernel
theorem dX12_minutes_76 : decode cX12_minutes 76 = .ok (.ireturn, 1) := by decide +kernel
theorem dX12_orders_0 : decode cX12_orders 0 = .ok (.iload_n 2, 1) := by decide +kernel
theorem dX12_orders_1 : decode cX12_orders 1 = .ok (.ifCond .ne 54, 3) := by decide +kernel
theorem dX12_orders_4 : decode cX12_orders 4 = .ok (.aload_n 0, 1) := by decide +kernel
theorem dX12_orders_5 : decode cX12_orders 5 = .ok (.getfield 195, 3) := by decide +kernel
theorem dX12_orders_8 : decode cX12_orders 8 = .ok (.ifCond .lt 12, 3) := by decide +kernel
theorem dX12_orders_11 : decode cX12_orders 11 = .ok (.iload_n 3, 1) := by decide +kernel
theorem dX12_orders_12 : decode cX12_orders 12 = .ok (.aload_n 0, 1) := by decide +kernel
theorem dX12_orders_13 : decode cX12_orders 13 = .ok (.getfield 195, 3) := by decide +kernel
theorem dX12_orders_16 : decode cX12_orders 16 = .ok (.if_icmp .lt 4, 3) := by decide +kernel
theorem dX12_orders_19 : decode cX12_orders 19 = .ok (.return_, 1) := by decide +kernel
theorem dX12_orders_20 : decode cX12_orders 20 = .ok (.aload_n 0, 1) := by decide +kernel
theorem dX12_orders_21 : decode cX12_orders 21 = .ok (.iload_n 3, 1) := by decide +kernel
theorem dX12_orders_22 : decode cX12_orders 22 = .ok (.putfield 195, 3) := by decide +kernel
theorem dX12_orders_25 : decode cX12_orders 25 = .ok (.iconst 0, 1) := by decide +kernel
theorem dX12_orders_26 : decode cX12_orders 26 = .ok (.istore 4, 2) := by decide +kernel
theorem dX12_orders_28 : decode cX12_orders 28 = .ok (.iload 4, 2) := by decide +kernel
theorem dX12_orders_30 : decode cX12_orders 30 = .ok (.iload_n 1, 1) := by decide +kernel
theorem dX12_orders_31 : decode cX12_orders 31 = .ok (.if_icmp .ge 23, 3) := by decide +kernel
theorem dX12_orders_34 : decode cX12_orders 34 = .ok (.aload_n 0, 1) := by decide +kernel
theorem dX12_orders_35 : decode cX12_orders 35 = .ok (.getfield 39, 3) := by decide +kernel
theorem dX12_orders_38 : decode cX12_orders 38 = .ok (.iload 4, 2) := by decide +kernel
theorem dX12_orders_40 : decode cX12_orders 40 = .ok (.aload_n 0, 1) := by decide +kernel
theorem dX12_orders_41 : decode cX12_orders 41 = .ok (.getfield 42, 3) := by decide +kernel
theorem dX12_orders_44 : decode cX12_orders 44 = .ok (.iload 4, 2) := by decide +kernel
theorem dX12_orders_46 : decode cX12_orders 46 = .ok (.iaload, 1) := by decide +kernel
theorem dX12_orders_47 : decode cX12_orders 47 = .ok (.iastore, 1) := by decide +kernel
theorem dX12_orders_48 : decode cX12_orders 48 = .ok (.iinc 4 1, 3) := by decide +kernel
theorem dX12_orders_51 : decode cX12_orders 51 = .ok (.goto (-23), 3) := by decide +kernel
theorem dX12_orders_54 : decode cX12_orders 54 = .ok (.return_, 1) := by decide +kernel
theorem dX12_orders_55 : decode cX12_orders 55 = .ok (.iconst 0, 1) := by decide +kernel
theorem dX12_orders_56 : decode cX12_orders 56 = .ok (.istore 4, 2) := by decide +kernel
theorem dX12_orders_58 : decode cX12_orders 58 = .ok (.iload 4, 2) := by decide +kernel
theorem dX12_orders_60 : decode cX12_orders 60 = .ok (.bipush 6, 2) := by decide +kernel
theorem dX12_orders_62 : decode cX12_orders 62 = .ok (.if_icmp .ge 73, 3) := by decide +kernel
theorem dX12_orders_65 : decode cX12_orders 65 = .ok (.iload_n 2, 1) := by decide +kernel
theorem dX12_orders_66 : decode cX12_orders 66 = .ok (.iload 4, 2) := by decide +kernel
theorem dX12_orders_68 : decode cX12_orders 68 = .ok (.ishr, 1) := by decide +kernel
theorem dX12_orders_69 : decode cX12_orders 69 = .ok (.iconst 1, 1) := by decide +kernel
theorem dX12_orders_70 : decode cX12_orders 70 = .ok (.iand, 1) := by decide +kernel
theorem dX12_orders_71 : decode cX12_orders 71 = .ok (.ifCond .ne 6, 3) := by decide +kernel
theorem dX12_orders_74 : decode cX12_orders 74 = .ok (.goto 55, 3) := by decide +kernel
theorem dX12_orders_77 : decode cX12_orders 77 = .ok (.aload_n 0, 1) := by decide +kernel
theorem dX12_orders_78 : decode cX12_orders 78 = .ok (.getfield 42, 3) := by decide +kernel
theorem dX12_orders_81 : decode cX12_orders 81 = .ok (.iload_n 1, 1) := by decide +kernel
theorem dX12_orders_82 : decode cX12_orders 82 = .ok (.iload 4, 2) := by decide +kernel
theorem dX12_orders_84 : decode cX12_orders 84 = .ok (.iastore, 1) := by decide +kernel
theorem dX12_orders_85 : decode cX12_orders 85 = .ok (.aload_n 0, 1) := by decide +kernel
theorem dX12_orders_86 : decode cX12_orders 86 = .ok (.iload_n 1, 1) := by decide +kernel
theorem dX12_orders_87 : decode cX12_orders 87 = .ok (.iconst 1, 1) := by decide +kernel
theorem dX12_orders_88 : decode cX12_orders 88 = .ok (.iadd, 1) := by decide +kernel
theorem dX12_orders_89 : decode cX12_orders 89 = .ok (.iload_n 2, 1) := by decide +kernel
theorem dX12_orders_90 : decode cX12_orders 90 = .ok (.iconst 1, 1) := by decide +kernel
theorem dX12_orders_91 : decode cX12_orders 91 = .ok (.iload 4, 2) := by decide +kernel
theorem dX12_orders_93 : decode cX12_orders 93 = .ok (.ishl, 1) := by decide +kernel
theorem dX12_orders_94 : decode cX12_orders 94 = .ok (.iconst (-1), 1) := by decide +kernel
theorem dX12_orders_95 : decode cX12_orders 95 = .ok (.ixor, 1) := by decide +kernel
theorem dX12_orders_96 : decode cX12_orders 96 = .ok (.iand, 1) := by decide +kernel
theorem dX12_orders_97 : decode cX12_orders 97 = .ok (.iload_n 3, 1) := by decide +kernel
theorem dX12_orders_98 : decode cX12_orders 98 = .ok (.aload_n 0, 1) := by decide +kernel
theorem dX12_orders_99 : decode cX12_orders 99 = .ok (.iload_n 1, 1) := by decide +kernel
theorem dX12_orders_100 : decode cX12_orders 100 = .ok (.ifCond .ne 12, 3) := by decide +kernel
theorem dX12_orders_103 : decode cX12_orders 103 = .ok (.aload_n 0, 1) := by decide +kernel
theorem dX12_orders_104 : decode cX12_orders 104 = .ok (.getfield 9, 3) := by decide +kernel
theorem dX12_orders_107 : decode cX12_orders 107 = .ok (.iconst 5, 1) := by decide +kernel
theorem dX12_orders_108 : decode cX12_orders 108 = .ok (.iaload, 1) := by decide +kernel
theorem dX12_orders_109 : decode cX12_orders 109 = .ok (.goto 11, 3) := by decide +kernel
theorem dX12_orders_112 : decode cX12_orders 112 = .ok (.aload_n 0, 1) := by decide +kernel
theorem dX12_orders_113 : decode cX12_orders 113 = .ok (.getfield 42, 3) := by decide +kernel
theorem dX12_orders_116 : decode cX12_orders 116 = .ok (.iload_n 1, 1) := by decide +kernel
theorem dX12_orders_117 : decode cX12_orders 117 = .ok (.iconst 1, 1) := by decide +kernel
theorem dX12_orders_118 : decode cX12_orders 118 = .ok (.isub, 1) := by decide +kernel
theorem dX12_orders_119 : decode cX12_orders 119 = .ok (.iaload, 1) := by decide +kernel
theorem dX12_orders_120 : decode cX12_orders 120 = .ok (.iload 4, 2) := by decide +kernel
theorem dX12_orders_122 : decode cX12_orders 122 = .ok (.invokevirtual 108, 3) := by decide +kernel
theorem dX12_orders_125 : decode cX12_orders 125 = .ok (.iadd, 1) := by decide +kernel
theorem dX12_orders_126 : decode cX12_orders 126 = .ok (.invokevirtual 198, 3) := by decide +kernel
theorem dX12_orders_129 : decode cX12_orders 129 = .ok (.iinc 4 1, 3) := by decide +kernel
theorem dX12_orders_132 : decode cX12_orders 132 = .ok (.goto (-74), 3) := by decide +kernel
theorem dX12_orders_135 : decode cX12_orders 135 = .ok (.return_, 1) := by decide +kernel
theorem dX12_isSet_0 : decode cX12_isSet 0 = .ok (.aload_n 0, 1) := by decide +kernel
theorem dX12_isSet_1 : decode cX12_isSet 1 = .ok (.iconst 0, 1) := by decide +kernel
theorem dX12_isSet_2 : decode cX12_isSet 2 = .ok (.putfield 45, 3) := by decide +kernel
theorem dX12_isSet_5 : decode cX12_isSet 5 = .ok (.iload_n 1, 1) := by decide +kernel
theorem dX12_isSet_6 : decode cX12_isSet 6 = .ok (.iconst 0, 1) := by decide +kernel
theorem dX12_isSet_7 : decode cX12_isSet 7 = .ok (.iconst 1, 1) := by decide +kernel
theorem dX12_isSet_8 : decode cX12_isSet 8 = .ok (.aload_n 0, 1) := by decide +kernel
theorem dX12_isSet_9 : decode cX12_isSet 9 = .ok (.getfield 9, 3) := by decide +kernel
theorem dX12_isSet_12 : decode cX12_isSet 12 = .ok (.iconst 0, 1) := by decide +kernel
theorem dX12_isSet_13 : decode cX12_isSet 13 = .ok (.iaload, 1) := by decide +kernel
theorem dX12_isSet_14 : decode cX12_isSet 14 = .ok (.ishl, 1) := by decide +kernel
theorem dX12_isSet_15 : decode cX12_isSet 15 = .ok (.iconst 1, 1) := by decide +kernel
theorem dX12_isSet_16 : decode cX12_isSet 16 = .ok (.isub, 1) := by decide +kernel
theorem dX12_isSet_17 : decode cX12_isSet 17 = .ok (.invokestatic 64, 3) := by decide +kernel
theorem dX12_isSet_20 : decode cX12_isSet 20 = .ok (.ifCond .ne 5, 3) := by decide +kernel
theorem dX12_isSet_23 : decode cX12_isSet 23 = .ok (.iconst 0, 1) := by decide +kernel
theorem dX12_isSet_24 : decode cX12_isSet 24 = .ok (.ireturn, 1) := by decide +kernel
theorem dX12_isSet_25 : decode cX12_isSet 25 = .ok (.aload_n 0, 1) := by decide +kernel
theorem dX12_isSet_26 : decode cX12_isSet 26 = .ok (.iconst (-1), 1) := by decide +kernel
theorem dX12_isSet_27 : decode cX12_isSet 27 = .ok (.putfield 195, 3) := by decide +kernel
theorem dX12_isSet_30 : decode cX12_isSet 30 = .ok (.aload_n 0, 1) := by decide +kernel
theorem dX12_isSet_31 : decode cX12_isSet 31 = .ok (.iconst 0, 1) := by decide +kernel
theorem dX12_isSet_32 : decode cX12_isSet 32 = .ok (.iload_n 1, 1) := by decide +kernel
theorem dX12_isSet_33 : decode cX12_isSet 33 = .ok (.iconst 0, 1) := by decide +kernel
theorem dX12_isSet_34 : decode cX12_isSet 34 = .ok (.invokevirtual 198, 3) := by decide +kernel
theorem dX12_isSet_37 : decode cX12_isSet 37 = .ok (.iconst 1, 1) := by decide +kernel
theorem dX12_isSet_38 : decode cX12_isSet 38 = .ok (.ireturn, 1) := by decide +kernel
theorem dX12_best_0 : decode cX12_best 0 = .ok (.aload_n 0, 1) := by decide +kernel
theorem dX12_best_1 : decode cX12_best 1 = .ok (.iload_n 1, 1) := by decide +kernel
theorem dX12_best_2 : decode cX12_best 2 = .ok (.invokevirtual 202, 3) := by decide +kernel
theorem dX12_best_5 : decode cX12_best 5 = .ok (.ifCond .eq 10, 3) := by decide +kernel
theorem dX12_best_8 : decode cX12_best 8 = .ok (.aload_n 0, 1) := by decide +kernel
theorem dX12_best_9 : decode cX12_best 9 = .ok (.getfield 195, 3) := by decide +kernel
theorem dX12_best_12 : decode cX12_best 12 = .ok (.goto 8, 3) := by decide +kernel
theorem dX12_best_15 : decode cX12_best 15 = .ok (.aload_n 0, 1) := by decide +kernel
theorem dX12_best_16 : decode cX12_best 16 = .ok (.iconst 1, 1) := by decide +kernel
theorem dX12_best_17 : decode cX12_best 17 = .ok (.invokevirtual 54, 3) := by decide +kernel
theorem dX12_best_20 : decode cX12_best 20 = .ok (.ireturn, 1) := by decide +kernel
theorem dX12_bestAgain_0 : decode cX12_bestAgain 0 = .ok (.aload_n 0, 1) := by decide +kernel
theorem dX12_bestAgain_1 : decode cX12_bestAgain 1 = .ok (.iload_n 1, 1) := by decide +kernel
theorem dX12_bestAgain_2 : decode cX12_bestAgain 2 = .ok (.invokevirtual 202, 3) := by decide +kernel
theorem dX12_bestAgain_5 : decode cX12_bestAgain 5 = .ok (.ifCond .eq 10, 3) := by decide +kernel
theorem dX12_bestAgain_8 : decode cX12_bestAgain 8 = .ok (.aload_n 0, 1) := by decide +kernel
theorem dX12_bestAgain_9 : decode cX12_bestAgain 9 = .ok (.getfield 195, 3) := by decide +kernel
theorem dX12_bestAgain_12 : decode cX12_bestAgain 12 = .ok (.goto 8, 3) := by decide +kernel
theorem dX12_bestAgain_15 : decode cX12_bestAgain 15 = .ok (.aload_n 0, 1) := by decide +kernel
theorem dX12_bestAgain_16 : decode cX12_bestAgain 16 = .ok (.iconst 1, 1) := by decide +kernel
theorem dX12_bestAgain_17 : decode cX12_bestAgain 17 = .ok (.invokevirtual 54, 3) := by decide +kernel
theorem dX12_bestAgain_20 : decode cX12_bestAgain 20 = .ok (.ireturn, 1) := by decide +kernel
theorem dX12_bestColour_0 : decode cX12_bestColour 0 = .ok (.aload_n 0, 1) := by decide +kernel
theorem dX12_bestColour_1 : decode cX12_bestColour 1 = .ok (.iload_n 1, 1) := by decide +kernel
theorem dX12_bestColour_2 : decode cX12_bestColour 2 = .ok (.invokevirtual 202, 3) := by decide +kernel
theorem dX12_bestColour_5 : decode cX12_bestColour 5 = .ok (.ifCond .ne 9, 3) := by decide +kernel
theorem dX12_bestColour_8 : decode cX12_bestColour 8 = .ok (.aload_n 0, 1) := by decide +kernel
theorem dX12_bestColour_9 : decode cX12_bestColour 9 = .ok (.iconst 1, 1) := by decide +kernel
theorem dX12_bestColour_10 : decode cX12_bestColour 10 = .ok (.invokevirtual 54, 3) := by decide +kernel
theorem dX12_bestColour_13 : decode cX12_bestColour 13 = .ok (.ireturn, 1) := by decide +kernel
theorem dX12_bestColour_14 : decode cX12_bestColour 14 = .ok (.iload_n 2, 1) := by decide +kernel
theorem dX12_bestColour_15 : decode cX12_bestColour 15 = .ok (.iconst 0, 1) := by decide +kernel
theorem dX12_bestColour_16 : decode cX12_bestColour 16 = .ok (.iload_n 1, 1) := by decide +kernel
theorem dX12_bestColour_17 : decode cX12_bestColour 17 = .ok (.invokestatic 205, 3) := by decide +kernel
theorem dX12_bestColour_20 : decode cX12_bestColour 20 = .ok (.iconst 1, 1) := by decide +kernel
theorem dX12_bestColour_21 : decode cX12_bestColour 21 = .ok (.isub, 1) := by decide +kernel
theorem dX12_bestColour_22 : decode cX12_bestColour 22 = .ok (.invokestatic 64, 3) := by decide +kernel
theorem dX12_bestColour_25 : decode cX12_bestColour 25 = .ok (.ifCond .eq 12, 3) := by decide +kernel
theorem dX12_bestColour_28 : decode cX12_bestColour 28 = .ok (.aload_n 0, 1) := by decide +kernel
theorem dX12_bestColour_29 : decode cX12_bestColour 29 = .ok (.getfield 39, 3) := by decide +kernel
theorem dX12_bestColour_32 : decode cX12_bestColour 32 = .ok (.iload_n 2, 1) := by decide +kernel
theorem dX12_bestColour_33 : decode cX12_bestColour 33 = .ok (.iaload, 1) := by decide +kernel
theorem dX12_bestColour_34 : decode cX12_bestColour 34 = .ok (.goto 8, 3) := by decide +kernel
theorem dX12_bestColour_37 : decode cX12_bestColour 37 = .ok (.aload_n 0, 1) := by decide +kernel
theorem dX12_bestColour_38 : decode cX12_bestColour 38 = .ok (.iconst 2, 1) := by decide +kernel
theorem dX12_bestColour_39 : decode cX12_bestColour 39 = .ok (.invokevirtual 54, 3) := by decide +kernel
theorem dX12_bestColour_42 : decode cX12_bestColour 42 = .ok (.ireturn, 1) := by decide +kernel
theorem dX12_piecesOf_0 : decode cX12_piecesOf 0 = .ok (.iconst 0, 1) := by decide +kernel
theorem dX12_piecesOf_1 : decode cX12_piecesOf 1 = .ok (.istore_n 3, 1) := by decide +kernel
theorem dX12_piecesOf_2 : decode cX12_piecesOf 2 = .ok (.iload_n 3, 1) := by decide +kernel
theorem dX12_piecesOf_3 : decode cX12_piecesOf 3 = .ok (.aload_n 0, 1) := by decide +kernel
theorem dX12_piecesOf_4 : decode cX12_piecesOf 4 = .ok (.iload_n 1, 1) := by decide +kernel
theorem dX12_piecesOf_5 : decode cX12_piecesOf 5 = .ok (.iconst 2, 1) := by decide +kernel
theorem dX12_piecesOf_6 : decode cX12_piecesOf 6 = .ok (.invokevirtual 111, 3) := by decide +kernel
theorem dX12_piecesOf_9 : decode cX12_piecesOf 9 = .ok (.if_icmp .ge 31, 3) := by decide +kernel
theorem dX12_piecesOf_12 : decode cX12_piecesOf 12 = .ok (.aload_n 0, 1) := by decide +kernel
theorem dX12_piecesOf_13 : decode cX12_piecesOf 13 = .ok (.iload_n 1, 1) := by decide +kernel
theorem dX12_piecesOf_14 : decode cX12_piecesOf 14 = .ok (.iconst 3, 1) := by decide +kernel
theorem dX12_piecesOf_15 : decode cX12_piecesOf 15 = .ok (.iload_n 3, 1) := by decide +kernel
theorem dX12_piecesOf_16 : decode cX12_piecesOf 16 = .ok (.iadd, 1) := by decide +kernel
theorem dX12_piecesOf_17 : decode cX12_piecesOf 17 = .ok (.invokevirtual 111, 3) := by decide +kernel
theorem dX12_piecesOf_20 : decode cX12_piecesOf 20 = .ok (.iload_n 2, 1) := by decide +kernel
theorem dX12_piecesOf_21 : decode cX12_piecesOf 21 = .ok (.if_icmp .ne 13, 3) := by decide +kernel
theorem dX12_piecesOf_24 : decode cX12_piecesOf 24 = .ok (.aload_n 0, 1) := by decide +kernel
theorem dX12_piecesOf_25 : decode cX12_piecesOf 25 = .ok (.iload_n 1, 1) := by decide +kernel
theorem dX12_piecesOf_26 : decode cX12_piecesOf 26 = .ok (.bipush 6, 2) := by decide +kernel
theorem dX12_piecesOf_28 : decode cX12_piecesOf 28 = .ok (.iload_n 3, 1) := by decide +kernel
theorem dX12_piecesOf_29 : decode cX12_piecesOf 29 = .ok (.iadd, 1) := by decide +kernel
theorem dX12_piecesOf_30 : decode cX12_piecesOf 30 = .ok (.invokevirtual 111, 3) := by decide +kernel
theorem dX12_piecesOf_33 : decode cX12_piecesOf 33 = .ok (.ireturn, 1) := by decide +kernel
theorem dX12_piecesOf_34 : decode cX12_piecesOf 34 = .ok (.iinc 3 1, 3) := by decide +kernel
theorem dX12_piecesOf_37 : decode cX12_piecesOf 37 = .ok (.goto (-35), 3) := by decide +kernel
theorem dX12_piecesOf_40 : decode cX12_piecesOf 40 = .ok (.iconst 0, 1) := by decide +kernel
theorem dX12_piecesOf_41 : decode cX12_piecesOf 41 = .ok (.ireturn, 1) := by decide +kernel
theorem dX12_familyOf_0 : decode cX12_familyOf 0 = .ok (.aload_n 0, 1) := by decide +kernel
theorem dX12_familyOf_1 : decode cX12_familyOf 1 = .ok (.iconst 0, 1) := by decide +kernel
theorem dX12_familyOf_2 : decode cX12_familyOf 2 = .ok (.putfield 45, 3) := by decide +kernel
theorem dX12_familyOf_5 : decode cX12_familyOf 5 = .ok (.aload_n 0, 1) := by decide +kernel
theorem dX12_familyOf_6 : decode cX12_familyOf 6 = .ok (.iload_n 1, 1) := by decide +kernel
theorem dX12_familyOf_7 : decode cX12_familyOf 7 = .ok (.invokevirtual 86, 3) := by decide +kernel
theorem dX12_familyOf_10 : decode cX12_familyOf 10 = .ok (.ifCond .ne 9, 3) := by decide +kernel
theorem dX12_familyOf_13 : decode cX12_familyOf 13 = .ok (.aload_n 0, 1) := by decide +kernel
theorem dX12_familyOf_14 : decode cX12_familyOf 14 = .ok (.iconst 1, 1) := by decide +kernel
theorem dX12_familyOf_15 : decode cX12_familyOf 15 = .ok (.invokevirtual 54, 3) := by decide +kernel
theorem dX12_familyOf_18 : decode cX12_familyOf 18 = .ok (.ireturn, 1) := by decide +kernel
theorem dX12_familyOf_19 : decode cX12_familyOf 19 = .ok (.iload_n 2, 1) := by decide +kernel
theorem dX12_familyOf_20 : decode cX12_familyOf 20 = .ok (.tableswitch 83 0 4 #[36, 36, 36, 43, 67], 36) := by decide +kernel
theorem dX12_familyOf_56 : decode cX12_familyOf 56 = .ok (.aload_n 0, 1) := by decide +kernel
theorem dX12_familyOf_57 : decode cX12_familyOf 57 = .ok (.iload_n 1, 1) := by decide +kernel
theorem dX12_familyOf_58 : decode cX12_familyOf 58 = .ok (.iload_n 2, 1) := by decide +kernel
theorem dX12_familyOf_59 : decode cX12_familyOf 59 = .ok (.invokevirtual 111, 3) := by decide +kernel
theorem dX12_familyOf_62 : decode cX12_familyOf 62 = .ok (.ireturn, 1) := by decide +kernel
theorem dX12_familyOf_63 : decode cX12_familyOf 63 = .ok (.aload_n 0, 1) := by decide +kernel
theorem dX12_familyOf_64 : decode cX12_familyOf 64 = .ok (.iload_n 1, 1) := by decide +kernel
theorem dX12_familyOf_65 : decode cX12_familyOf 65 = .ok (.bipush 6, 2) := by decide +kernel
theorem dX12_familyOf_67 : decode cX12_familyOf 67 = .ok (.invokevirtual 111, 3) := by decide +kernel
theorem dX12_familyOf_70 : decode cX12_familyOf 70 = .ok (.aload_n 0, 1) := by decide +kernel
theorem dX12_familyOf_71 : decode cX12_familyOf 71 = .ok (.iload_n 1, 1) := by decide +kernel
theorem dX12_familyOf_72 : decode cX12_familyOf 72 = .ok (.bipush 7, 2) := by decide +kernel
theorem dX12_familyOf_74 : decode cX12_familyOf 74 = .ok (.invokevirtual 111, 3) := by decide +kernel
theorem dX12_familyOf_77 : decode cX12_familyOf 77 = .ok (.iadd, 1) := by decide +kernel
theorem dX12_familyOf_78 : decode cX12_familyOf 78 = .ok (.aload_n 0, 1) := by decide +kernel
theorem dX12_familyOf_79 : decode cX12_familyOf 79 = .ok (.iload_n 1, 1) := by decide +kernel
theorem dX12_familyOf_80 : decode cX12_familyOf 80 = .ok (.bipush 8, 2) := by decide +kernel
theorem dX12_familyOf_82 : decode cX12_familyOf 82 = .ok (.invokevirtual 111, 3) := by decide +kernel
theorem dX12_familyOf_85 : decode cX12_familyOf 85 = .ok (.iadd, 1) := by decide +kernel
theorem dX12_familyOf_86 : decode cX12_familyOf 86 = .ok (.ireturn, 1) := by decide +kernel
theorem dX12_familyOf_87 : decode cX12_familyOf 87 = .ok (.aload_n 0, 1) := by decide +kernel
theorem dX12_familyOf_88 : decode cX12_familyOf 88 = .ok (.getfield 9, 3) := by decide +kernel
theorem dX12_familyOf_91 : decode cX12_familyOf 91 = .ok (.iconst 4, 1) := by decide +kernel
theorem dX12_familyOf_92 : decode cX12_familyOf 92 = .ok (.iaload, 1) := by decide +kernel
theorem dX12_familyOf_93 : decode cX12_familyOf 93 = .ok (.iload_n 1, 1) := by decide +kernel
theorem dX12_familyOf_94 : decode cX12_familyOf 94 = .ok (.if_icmp .ne 7, 3) := by decide +kernel
theorem dX12_familyOf_97 : decode cX12_familyOf 97 = .ok (.iconst 1, 1) := by decide +kernel
theorem dX12_familyOf_98 : decode cX12_familyOf 98 = .ok (.goto 4, 3) := by decide +kernel
theorem dX12_familyOf_101 : decode cX12_familyOf 101 = .ok (.iconst 0, 1) := by decide +kernel
theorem dX12_familyOf_102 : decode cX12_familyOf 102 = .ok (.ireturn, 1) := by decide +kernel
theorem dX12_familyOf_103 : decode cX12_familyOf 103 = .ok (.aload_n 0, 1) := by decide +kernel
theorem dX12_familyOf_104 : decode cX12_familyOf 104 = .ok (.iconst 2, 1) := by decide +kernel
theorem dX12_familyOf_105 : decode cX12_familyOf 105 = .ok (.invokevirtual 54, 3) := by decide +kernel
theorem dX12_familyOf_108 : decode cX12_familyOf 108 = .ok (.ireturn, 1) := by decide +kernel
theorem dX12_pieces_0 : decode cX12_pieces 0 = .ok (.aload_n 0, 1) := by decide +kernel
theorem dX12_pieces_1 : decode cX12_pieces 1 = .ok (.iconst 0, 1) := by decide +kernel
theorem dX12_pieces_2 : decode cX12_pieces 2 = .ok (.putfield 45, 3) := by decide +kernel
theorem dX12_pieces_5 : decode cX12_pieces 5 = .ok (.aload_n 0, 1) := by decide +kernel
theorem dX12_pieces_6 : decode cX12_pieces 6 = .ok (.iload_n 1, 1) := by decide +kernel
theorem dX12_pieces_7 : decode cX12_pieces 7 = .ok (.invokevirtual 86, 3) := by decide +kernel
theorem dX12_pieces_10 : decode cX12_pieces 10 = .ok (.ifCond .eq 20, 3) := by decide +kernel
theorem dX12_pieces_13 : decode cX12_pieces 13 = .ok (.aload_n 0, 1) := by decide +kernel
theorem dX12_pieces_14 : decode cX12_pieces 14 = .ok (.iload_n 2, 1) := by decide +kernel
theorem dX12_pieces_15 : decode cX12_pieces 15 = .ok (.invokevirtual 83, 3) := by decide +kernel
theorem dX12_pieces_18 : decode cX12_pieces 18 = .ok (.ifCond .eq 12, 3) := by decide +kernel
theorem dX12_pieces_21 : decode cX12_pieces 21 = .ok (.aload_n 0, 1) := by decide +kernel
theorem dX12_pieces_22 : decode cX12_pieces 22 = .ok (.iload_n 1, 1) := by decide +kernel
theorem dX12_pieces_23 : decode cX12_pieces 23 = .ok (.iload_n 2, 1) := by decide +kernel
theorem dX12_pieces_24 : decode cX12_pieces 24 = .ok (.invokevirtual 210, 3) := by decide +kernel
theorem dX12_pieces_27 : decode cX12_pieces 27 = .ok (.goto 8, 3) := by decide +kernel
theorem dX12_pieces_30 : decode cX12_pieces 30 = .ok (.aload_n 0, 1) := by decide +kernel
theorem dX12_pieces_31 : decode cX12_pieces 31 = .ok (.iconst 1, 1) := by decide +kernel
theorem dX12_pieces_32 : decode cX12_pieces 32 = .ok (.invokevirtual 54, 3) := by decide +kernel
theorem dX12_pieces_35 : decode cX12_pieces 35 = .ok (.ireturn, 1) := by decide +kernel
theorem dX12_families_0 : decode cX12_families 0 = .ok (.aload_n 0, 1) := by decide +kernel
theorem dX12_families_1 : decode cX12_families 1 = .ok (.iconst 0, 1) := by decide +kernel
theorem dX12_families_2 : decode cX12_families 2 = .ok (.putfield 45, 3) := by decide +kernel
theorem dX12_families_5 : decode cX12_families 5 = .ok (.aload_n 0, 1) := by decide +kernel
theorem dX12_families_6 : decode cX12_families 6 = .ok (.iload_n 1, 1) := by decide +kernel
theorem dX12_families_7 : decode cX12_families 7 = .ok (.invokevirtual 83, 3) := by decide +kernel
theorem dX12_families_10 : decode cX12_families 10 = .ok (.ifCond .ne 9, 3) := by decide +kernel
theorem dX12_families_13 : decode cX12_families 13 = .ok (.aload_n 0, 1) := by decide +kernel
theorem dX12_families_14 : decode cX12_families 14 = .ok (.iconst 1, 1) := by decide +kernel
theorem dX12_families_15 : decode cX12_families 15 = .ok (.invokevirtual 54, 3) := by decide +kernel
theorem dX12_families_18 : decode cX12_families 18 = .ok (.ireturn, 1) := by decide +kernel
theorem dX12_families_19 : decode cX12_families 19 = .ok (.iconst 0, 1) := by decide +kernel
theorem dX12_families_20 : decode cX12_families 20 = .ok (.istore_n 2, 1) := by decide +kernel
theorem dX12_families_21 : decode cX12_families 21 = .ok (.iconst 0, 1) := by decide +kernel
theorem dX12_families_22 : decode cX12_families 22 = .ok (.istore_n 3, 1) := by decide +kernel
theorem dX12_families_23 : decode cX12_families 23 = .ok (.iload_n 3, 1) := by decide +kernel
theorem dX12_families_24 : decode cX12_families 24 = .ok (.aload_n 0, 1) := by decide +kernel
theorem dX12_families_25 : decode cX12_families 25 = .ok (.getfield 9, 3) := by decide +kernel
theorem dX12_families_28 : decode cX12_families 28 = .ok (.iconst 2, 1) := by decide +kernel
theorem dX12_families_29 : decode cX12_families 29 = .ok (.iaload, 1) := by decide +kernel
theorem dX12_families_30 : decode cX12_families 30 = .ok (.if_icmp .ge 24, 3) := by decide +kernel
theorem dX12_families_33 : decode cX12_families 33 = .ok (.aload_n 0, 1) := by decide +kernel
theorem dX12_families_34 : decode cX12_families 34 = .ok (.iload_n 3, 1) := by decide +kernel
theorem dX12_families_35 : decode cX12_families 35 = .ok (.iload_n 1, 1) := by decide +kernel
theorem dX12_families_36 : decode cX12_families 36 = .ok (.invokevirtual 210, 3) := by decide +kernel
theorem dX12_families_39 : decode cX12_families 39 = .ok (.ifCond .le 9, 3) := by decide +kernel
theorem dX12_families_42 : decode cX12_families 42 = .ok (.iload_n 2, 1) := by decide +kernel
theorem dX12_families_43 : decode cX12_families 43 = .ok (.iconst 1, 1) := by decide +kernel
theorem dX12_families_44 : decode cX12_families 44 = .ok (.iload_n 3, 1) := by decide +kernel
theorem dX12_families_45 : decode cX12_families 45 = .ok (.ishl, 1) := by decide +kernel
theorem dX12_families_46 : decode cX12_families 46 = .ok (.ior, 1) := by decide +kernel
theorem dX12_families_47 : decode cX12_families 47 = .ok (.istore_n 2, 1) := by decide +kernel
theorem dX12_families_48 : decode cX12_families 48 = .ok (.iinc 3 1, 3) := by decide +kernel
theorem dX12_families_51 : decode cX12_families 51 = .ok (.goto (-28), 3) := by decide +kernel
theorem dX12_families_54 : decode cX12_families 54 = .ok (.iload_n 2, 1) := by decide +kernel
theorem dX12_families_55 : decode cX12_families 55 = .ok (.ireturn, 1) := by decide +kernel
theorem dX12_dryer_0 : decode cX12_dryer 0 = .ok (.aload_n 0, 1) := by decide +kernel
theorem dX12_dryer_1 : decode cX12_dryer 1 = .ok (.iconst 0, 1) := by decide +kernel
theorem dX12_dryer_2 : decode cX12_dryer 2 = .ok (.putfield 45, 3) := by decide +kernel
theorem dX12_dryer_5 : decode cX12_dryer 5 = .ok (.iload_n 1, 1) := by decide +kernel
theorem dX12_dryer_6 : decode cX12_dryer 6 = .ok (.invokestatic 92, 3) := by decide +kernel
theorem dX12_dryer_9 : decode cX12_dryer 9 = .ok (.ifCond .ne 9, 3) := by decide +kernel
theorem dX12_dryer_12 : decode cX12_dryer 12 = .ok (.aload_n 0, 1) := by decide +kernel
theorem dX12_dryer_13 : decode cX12_dryer 13 = .ok (.iconst 1, 1) := by decide +kernel
theorem dX12_dryer_14 : decode cX12_dryer 14 = .ok (.invokevirtual 54, 3) := by decide +kernel
theorem dX12_dryer_17 : decode cX12_dryer 17 = .ok (.ireturn, 1) := by decide +kernel
theorem dX12_dryer_18 : decode cX12_dryer 18 = .ok (.iload_n 2, 1) := by decide +kernel
theorem dX12_dryer_19 : decode cX12_dryer 19 = .ok (.iconst 0, 1) := by decide +kernel
theorem dX12_dryer_20 : decode cX12_dryer 20 = .ok (.iconst 3, 1) := by decide +kernel
theorem dX12_dryer_21 : decode cX12_dryer 21 = .ok (.invokestatic 64, 3) := by decide +kernel
theorem dX12_dryer_24 : decode cX12_dryer 24 = .ok (.ifCond .ne 9, 3) := by decide +kernel
theorem dX12_dryer_27 : decode cX12_dryer 27 = .ok (.aload_n 0, 1) := by decide +kernel
theorem dX12_dryer_28 : decode cX12_dryer 28 = .ok (.iconst 2, 1) := by decide +kernel
theorem dX12_dryer_29 : decode cX12_dryer 29 = .ok (.invokevirtual 54, 3) := by decide +kernel
theorem dX12_dryer_32 : decode cX12_dryer 32 = .ok (.ireturn, 1) := by decide +kernel
theorem dX12_dryer_33 : decode cX12_dryer 33 = .ok (.bipush 100, 2) := by decide +kernel
theorem dX12_dryer_35 : decode cX12_dryer 35 = .ok (.iconst 3, 1) := by decide +kernel
theorem dX12_dryer_36 : decode cX12_dryer 36 = .ok (.iload_n 1, 1) := by decide +kernel
theorem dX12_dryer_37 : decode cX12_dryer 37 = .ok (.imul, 1) := by decide +kernel
theorem dX12_dryer_38 : decode cX12_dryer 38 = .ok (.iadd, 1) := by decide +kernel
theorem dX12_dryer_39 : decode cX12_dryer 39 = .ok (.istore_n 3, 1) := by decide +kernel
theorem dX12_dryer_40 : decode cX12_dryer 40 = .ok (.iload_n 2, 1) := by decide +kernel
theorem dX12_dryer_41 : decode cX12_dryer 41 = .ok (.iconst 3, 1) := by decide +kernel
theorem dX12_dryer_42 : decode cX12_dryer 42 = .ok (.if_icmp .ge 12, 3) := by decide +kernel
theorem dX12_dryer_45 : decode cX12_dryer 45 = .ok (.aload_n 0, 1) := by decide +kernel
theorem dX12_dryer_46 : decode cX12_dryer 46 = .ok (.getfield 9, 3) := by decide +kernel
theorem dX12_dryer_49 : decode cX12_dryer 49 = .ok (.iload_n 3, 1) := by decide +kernel
theorem dX12_dryer_50 : decode cX12_dryer 50 = .ok (.iload_n 2, 1) := by decide +kernel
theorem dX12_dryer_51 : decode cX12_dryer 51 = .ok (.iadd, 1) := by decide +kernel
theorem dX12_dryer_52 : decode cX12_dryer 52 = .ok (.iaload, 1) := by decide +kernel
theorem dX12_dryer_53 : decode cX12_dryer 53 = .ok (.ireturn, 1) := by decide +kernel
theorem dX12_dryer_54 : decode cX12_dryer 54 = .ok (.aload_n 0, 1) := by decide +kernel
theorem dX12_dryer_55 : decode cX12_dryer 55 = .ok (.getfield 9, 3) := by decide +kernel
theorem dX12_dryer_58 : decode cX12_dryer 58 = .ok (.iload_n 3, 1) := by decide +kernel
theorem dX12_dryer_59 : decode cX12_dryer 59 = .ok (.iaload, 1) := by decide +kernel
theorem dX12_dryer_60 : decode cX12_dryer 60 = .ok (.ifCond .ge 7, 3) := by decide +kernel
theorem dX12_dryer_63 : decode cX12_dryer 63 = .ok (.iconst 0, 1) := by decide +kernel
theorem dX12_dryer_64 : decode cX12_dryer 64 = .ok (.goto 23, 3) := by decide +kernel
theorem dX12_dryer_67 : decode cX12_dryer 67 = .ok (.iconst 0, 1) := by decide +kernel
theorem dX12_dryer_68 : decode cX12_dryer 68 = .ok (.aload_n 0, 1) := by decide +kernel
theorem dX12_dryer_69 : decode cX12_dryer 69 = .ok (.getfield 9, 3) := by decide +kernel
theorem dX12_dryer_72 : decode cX12_dryer 72 = .ok (.bipush 13, 2) := by decide +kernel
theorem dX12_dryer_74 : decode cX12_dryer 74 = .ok (.iaload, 1) := by decide +kernel
theorem dX12_dryer_75 : decode cX12_dryer 75 = .ok (.aload_n 0, 1) := by decide +kernel
theorem dX12_dryer_76 : decode cX12_dryer 76 = .ok (.getfield 9, 3) := by decide +kernel
theorem dX12_dryer_79 : decode cX12_dryer 79 = .ok (.iload_n 3, 1) := by decide +kernel
theorem dX12_dryer_80 : decode cX12_dryer 80 = .ok (.iconst 2, 1) := by decide +kernel
theorem dX12_dryer_81 : decode cX12_dryer 81 = .ok (.iadd, 1) := by decide +kernel
theorem dX12_dryer_82 : decode cX12_dryer 82 = .ok (.iaload, 1) := by decide +kernel
theorem dX12_dryer_83 : decode cX12_dryer 83 = .ok (.isub, 1) := by decide +kernel
theorem dX12_dryer_84 : decode cX12_dryer 84 = .ok (.invokestatic 103, 3) := by decide +kernel
theorem dX12_dryer_87 : decode cX12_dryer 87 = .ok (.ireturn, 1) := by decide +kernel
theorem dX12_stock_0 : decode cX12_stock 0 = .ok (.aload_n 0, 1) := by decide +kernel
theorem dX12_stock_1 : decode cX12_stock 1 = .ok (.iconst 0, 1) := by decide +kernel
theorem dX12_stock_2 : decode cX12_stock 2 = .ok (.putfield 45, 3) := by decide +kernel
theorem dX12_stock_5 : decode cX12_stock 5 = .ok (.aload_n 0, 1) := by decide +kernel
theorem dX12_stock_6 : decode cX12_stock 6 = .ok (.iload_n 1, 1) := by decide +kernel
theorem dX12_stock_7 : decode cX12_stock 7 = .ok (.invokevirtual 83, 3) := by decide +kernel
theorem dX12_stock_10 : decode cX12_stock 10 = .ok (.ifCond .eq 11, 3) := by decide +kernel
theorem dX12_stock_13 : decode cX12_stock 13 = .ok (.aload_n 0, 1) := by decide +kernel
theorem dX12_stock_14 : decode cX12_stock 14 = .ok (.iload_n 2, 1) := by decide +kernel
theorem dX12_stock_15 : decode cX12_stock 15 = .ok (.invokevirtual 95, 3) := by decide +kernel
theorem dX12_stock_18 : decode cX12_stock 18 = .ok (.ifCond .ne 9, 3) := by decide +kernel
theorem dX12_stock_21 : decode cX12_stock 21 = .ok (.aload_n 0, 1) := by decide +kernel
theorem dX12_stock_22 : decode cX12_stock 22 = .ok (.iconst 1, 1) := by decide +kernel
theorem dX12_stock_23 : decode cX12_stock 23 = .ok (.invokevirtual 54, 3) := by decide +kernel
theorem dX12_stock_26 : decode cX12_stock 26 = .ok (.ireturn, 1) := by decide +kernel
theorem dX12_stock_27 : decode cX12_stock 27 = .ok (.iload_n 1, 1) := by decide +kernel
theorem dX12_stock_28 : decode cX12_stock 28 = .ok (.iload_n 2, 1) := by decide +kernel
theorem dX12_stock_29 : decode cX12_stock 29 = .ok (.invokestatic 68, 3) := by decide +kernel
theorem dX12_stock_32 : decode cX12_stock 32 = .ok (.istore 4, 2) := by decide +kernel
theorem dX12_stock_34 : decode cX12_stock 34 = .ok (.iload_n 3, 1) := by decide +kernel
theorem dX12_stock_35 : decode cX12_stock 35 = .ok (.tableswitch 60 0 2 #[25, 36, 48], 25) := by decide +kernel
theorem dX12_stock_60 : decode cX12_stock 60 = .ok (.aload_n 0, 1) := by decide +kernel
theorem dX12_stock_61 : decode cX12_stock 61 = .ok (.getfield 9, 3) := by decide +kernel
theorem dX12_stock_64 : decode cX12_stock 64 = .ok (.bipush 109, 2) := by decide +kernel
theorem dX12_stock_66 : decode cX12_stock 66 = .ok (.iload 4, 2) := by decide +kernel
theorem dX12_stock_68 : decode cX12_stock 68 = .ok (.iadd, 1) := by decide +kernel
theorem dX12_stock_69 : decode cX12_stock 69 = .ok (.iaload, 1) := by decide +kernel
theorem dX12_stock_70 : decode cX12_stock 70 = .ok (.ireturn, 1) := by decide +kernel
theorem dX12_stock_71 : decode cX12_stock 71 = .ok (.aload_n 0, 1) := by decide +kernel
theorem dX12_stock_72 : decode cX12_stock 72 = .ok (.getfield 9, 3) := by decide +kernel
theorem dX12_stock_75 : decode cX12_stock 75 = .ok (.sipush 157, 3) := by decide +kernel
theorem dX12_stock_78 : decode cX12_stock 78 = .ok (.iload 4, 2) := by decide +kernel
theorem dX12_stock_80 : decode cX12_stock 80 = .ok (.iadd, 1) := by decide +kernel
theorem dX12_stock_81 : decode cX12_stock 81 = .ok (.iaload, 1) := by decide +kernel
theorem dX12_stock_82 : decode cX12_stock 82 = .ok (.ireturn, 1) := by decide +kernel
theorem dX12_stock_83 : decode cX12_stock 83 = .ok (.aload_n 0, 1) := by decide +kernel
theorem dX12_stock_84 : decode cX12_stock 84 = .ok (.getfield 9, 3) := by decide +kernel
theorem dX12_stock_87 : decode cX12_stock 87 = .ok (.sipush 205, 3) := by decide +kernel
theorem dX12_stock_90 : decode cX12_stock 90 = .ok (.iload 4, 2) := by decide +kernel
theorem dX12_stock_92 : decode cX12_stock 92 = .ok (.iadd, 1) := by decide +kernel
theorem dX12_stock_93 : decode cX12_stock 93 = .ok (.iaload, 1) := by decide +kernel
theorem dX12_stock_94 : decode cX12_stock 94 = .ok (.ireturn, 1) := by decide +kernel
theorem dX12_stock_95 : decode cX12_stock 95 = .ok (.aload_n 0, 1) := by decide +kernel
theorem dX12_stock_96 : decode cX12_stock 96 = .ok (.iconst 2, 1) := by decide +kernel
theorem dX12_stock_97 : decode cX12_stock 97 = .ok (.invokevirtual 54, 3) := by decide +kernel
theorem dX12_stock_100 : decode cX12_stock 100 = .ok (.ireturn, 1) := by decide +kernel
theorem dX12_made_0 : decode cX12_made 0 = .ok (.aload_n 0, 1) := by decide +kernel
theorem dX12_made_1 : decode cX12_made 1 = .ok (.iconst 0, 1) := by decide +kernel
theorem dX12_made_2 : decode cX12_made 2 = .ok (.putfield 45, 3) := by decide +kernel
theorem dX12_made_5 : decode cX12_made 5 = .ok (.aload_n 0, 1) := by decide +kernel
theorem dX12_made_6 : decode cX12_made 6 = .ok (.iload_n 1, 1) := by decide +kernel
theorem dX12_made_7 : decode cX12_made 7 = .ok (.invokevirtual 83, 3) := by decide +kernel
theorem dX12_made_10 : decode cX12_made 10 = .ok (.ifCond .ne 9, 3) := by decide +kernel
theorem dX12_made_13 : decode cX12_made 13 = .ok (.aload_n 0, 1) := by decide +kernel
theorem dX12_made_14 : decode cX12_made 14 = .ok (.iconst 1, 1) := by decide +kernel
theorem dX12_made_15 : decode cX12_made 15 = .ok (.invokevirtual 54, 3) := by decide +kernel
theorem dX12_made_18 : decode cX12_made 18 = .ok (.ireturn, 1) := by decide +kernel
theorem dX12_made_19 : decode cX12_made 19 = .ok (.iconst 0, 1) := by decide +kernel
theorem dX12_made_20 : decode cX12_made 20 = .ok (.istore_n 3, 1) := by decide +kernel
theorem dX12_made_21 : decode cX12_made 21 = .ok (.iload_n 2, 1) := by decide +kernel
theorem dX12_made_22 : decode cX12_made 22 = .ok (.tableswitch 147 0 3 #[30, 40, 101, 137], 30) := by decide +kernel
theorem dX12_made_52 : decode cX12_made 52 = .ok (.aload_n 0, 1) := by decide +kernel
theorem dX12_made_53 : decode cX12_made 53 = .ok (.getfield 9, 3) := by decide +kernel
theorem dX12_made_56 : decode cX12_made 56 = .ok (.bipush 30, 2) := by decide +kernel
theorem dX12_made_58 : decode cX12_made 58 = .ok (.iload_n 1, 1) := by decide +kernel
theorem dX12_made_59 : decode cX12_made 59 = .ok (.iadd, 1) := by decide +kernel
theorem dX12_made_60 : decode cX12_made 60 = .ok (.iaload, 1) := by decide +kernel
theorem dX12_made_61 : decode cX12_made 61 = .ok (.ireturn, 1) := by decide +kernel
theorem dX12_made_62 : decode cX12_made 62 = .ok (.iconst 0, 1) := by decide +kernel
theorem dX12_made_63 : decode cX12_made 63 = .ok (.istore 4, 2) := by decide +kernel
theorem dX12_made_65 : decode cX12_made 65 = .ok (.iload 4, 2) := by decide +kernel
theorem dX12_made_67 : decode cX12_made 67 = .ok (.bipush 6, 2) := by decide +kernel
theorem dX12_made_69 : decode cX12_made 69 = .ok (.if_icmp .ge 42, 3) := by decide +kernel
theorem dX12_made_72 : decode cX12_made 72 = .ok (.iload_n 3, 1) := by decide +kernel
theorem dX12_made_73 : decode cX12_made 73 = .ok (.aload_n 0, 1) := by decide +kernel
theorem dX12_made_74 : decode cX12_made 74 = .ok (.getfield 9, 3) := by decide +kernel
theorem dX12_made_77 : decode cX12_made 77 = .ok (.bipush 109, 2) := by decide +kernel
theorem dX12_made_79 : decode cX12_made 79 = .ok (.iload_n 1, 1) := by decide +kernel
theorem dX12_made_80 : decode cX12_made 80 = .ok (.iload 4, 2) := by decide +kernel
theorem dX12_made_82 : decode cX12_made 82 = .ok (.invokestatic 68, 3) := by decide +kernel
theorem dX12_made_85 : decode cX12_made 85 = .ok (.iadd, 1) := by decide +kernel
theorem dX12_made_86 : decode cX12_made 86 = .ok (.iaload, 1) := by decide +kernel
theorem dX12_made_87 : decode cX12_made 87 = .ok (.aload_n 0, 1) := by decide +kernel
theorem dX12_made_88 : decode cX12_made 88 = .ok (.getfield 9, 3) := by decide +kernel
theorem dX12_made_91 : decode cX12_made 91 = .ok (.sipush 205, 3) := by decide +kernel
theorem dX12_made_94 : decode cX12_made 94 = .ok (.iload_n 1, 1) := by decide +kernel
theorem dX12_made_95 : decode cX12_made 95 = .ok (.iload 4, 2) := by decide +kernel
theorem dX12_made_97 : decode cX12_made 97 = .ok (.invokestatic 68, 3) := by decide +kernel
theorem dX12_made_100 : decode cX12_made 100 = .ok (.iadd, 1) := by decide +kernel
theorem dX12_made_101 : decode cX12_made 101 = .ok (.iaload, 1) := by decide +kernel
theorem dX12_made_102 : decode cX12_made 102 = .ok (.iadd, 1) := by decide +kernel
theorem dX12_made_103 : decode cX12_made 103 = .ok (.iadd, 1) := by decide +kernel
theorem dX12_made_104 : decode cX12_made 104 = .ok (.istore_n 3, 1) := by decide +kernel
theorem dX12_made_105 : decode cX12_made 105 = .ok (.iinc 4 1, 3) := by decide +kernel
theorem dX12_made_108 : decode cX12_made 108 = .ok (.goto (-43), 3) := by decide +kernel
theorem dX12_made_111 : decode cX12_made 111 = .ok (.iload_n 3, 1) := by decide +kernel
theorem dX12_made_112 : decode cX12_made 112 = .ok (.aload_n 0, 1) := by decide +kernel
theorem dX12_made_113 : decode cX12_made 113 = .ok (.getfield 9, 3) := by decide +kernel
theorem dX12_made_116 : decode cX12_made 116 = .ok (.bipush 22, 2) := by decide +kernel
theorem dX12_made_118 : decode cX12_made 118 = .ok (.iload_n 1, 1) := by decide +kernel
theorem dX12_made_119 : decode cX12_made 119 = .ok (.iadd, 1) := by decide +kernel
theorem dX12_made_120 : decode cX12_made 120 = .ok (.iaload, 1) := by decide +kernel
theorem dX12_made_121 : decode cX12_made 121 = .ok (.imul, 1) := by decide +kernel
theorem dX12_made_122 : decode cX12_made 122 = .ok (.ireturn, 1) := by decide +kernel
theorem dX12_made_123 : decode cX12_made 123 = .ok (.iconst 0, 1) := by decide +kernel
theorem dX12_made_124 : decode cX12_made 124 = .ok (.istore 4, 2) := by decide +kernel
theorem dX12_made_126 : decode cX12_made 126 = .ok (.iload 4, 2) := by decide +kernel
theorem dX12_made_128 : decode cX12_made 128 = .ok (.bipush 6, 2) := by decide +kernel
theorem dX12_made_130 : decode cX12_made 130 = .ok (.if_icmp .ge 27, 3) := by decide +kernel
theorem dX12_made_133 : decode cX12_made 133 = .ok (.iload_n 3, 1) := by decide +kernel
theorem dX12_made_134 : decode cX12_made 134 = .ok (.aload_n 0, 1) := by decide +kernel
theorem dX12_made_135 : decode cX12_made 135 = .ok (.getfield 9, 3) := by decide +kernel
theorem dX12_made_138 : decode cX12_made 138 = .ok (.sipush 157, 3) := by decide +kernel
theorem dX12_made_141 : decode cX12_made 141 = .ok (.iload_n 1, 1) := by decide +kernel
theorem dX12_made_142 : decode cX12_made 142 = .ok (.iload 4, 2) := by decide +kernel
theorem dX12_made_144 : decode cX12_made 144 = .ok (.invokestatic 68, 3) := by decide +kernel
theorem dX12_made_147 : decode cX12_made 147 = .ok (.iadd, 1) := by decide +kernel
theorem dX12_made_148 : decode cX12_made 148 = .ok (.iaload, 1) := by decide +kernel
theorem dX12_made_149 : decode cX12_made 149 = .ok (.iadd, 1) := by decide +kernel
theorem dX12_made_150 : decode cX12_made 150 = .ok (.istore_n 3, 1) := by decide +kernel
theorem dX12_made_151 : decode cX12_made 151 = .ok (.iinc 4 1, 3) := by decide +kernel
theorem dX12_made_154 : decode cX12_made 154 = .ok (.goto (-28), 3) := by decide +kernel
theorem dX12_made_157 : decode cX12_made 157 = .ok (.iload_n 3, 1) := by decide +kernel
theorem dX12_made_158 : decode cX12_made 158 = .ok (.ireturn, 1) := by decide +kernel
theorem dX12_made_159 : decode cX12_made 159 = .ok (.aload_n 0, 1) := by decide +kernel
theorem dX12_made_160 : decode cX12_made 160 = .ok (.getfield 9, 3) := by decide +kernel
theorem dX12_made_163 : decode cX12_made 163 = .ok (.bipush 38, 2) := by decide +kernel
theorem dX12_made_165 : decode cX12_made 165 = .ok (.iload_n 1, 1) := by decide +kernel
theorem dX12_made_166 : decode cX12_made 166 = .ok (.iadd, 1) := by decide +kernel
theorem dX12_made_167 : decode cX12_made 167 = .ok (.iaload, 1) := by decide +kernel
theorem dX12_made_168 : decode cX12_made 168 = .ok (.ireturn, 1) := by decide +kernel
theorem dX12_made_169 : decode cX12_made 169 = .ok (.aload_n 0, 1) := by decide +kernel
theorem dX12_made_170 : decode cX12_made 170 = .ok (.iconst 2, 1) := by decide +kernel
theorem dX12_made_171 : decode cX12_made 171 = .ok (.invokevirtual 54, 3) := by decide +kernel
theorem dX12_made_174 : decode cX12_made 174 = .ok (.ireturn, 1) := by decide +kernel
theorem dX12_orderOf_0 : decode cX12_orderOf 0 = .ok (.aload_n 0, 1) := by decide +kernel
theorem dX12_orderOf_1 : decode cX12_orderOf 1 = .ok (.iconst 0, 1) := by decide +kernel
theorem dX12_orderOf_2 : decode cX12_orderOf 2 = .ok (.putfield 45, 3) := by decide +kernel
theorem dX12_orderOf_5 : decode cX12_orderOf 5 = .ok (.aload_n 0, 1) := by decide +kernel
theorem dX12_orderOf_6 : decode cX12_orderOf 6 = .ok (.iload_n 1, 1) := by decide +kernel
theorem dX12_orderOf_7 : decode cX12_orderOf 7 = .ok (.invokevirtual 121, 3) := by decide +kernel
theorem dX12_orderOf_10 : decode cX12_orderOf 10 = .ok (.ifCond .ne 9, 3) := by decide +kernel
theorem dX12_orderOf_13 : decode cX12_orderOf 13 = .ok (.aload_n 0, 1) := by decide +kernel
theorem dX12_orderOf_14 : decode cX12_orderOf 14 = .ok (.iconst 1, 1) := by decide +kernel
theorem dX12_orderOf_15 : decode cX12_orderOf 15 = .ok (.invokevirtual 54, 3) := by decide +kernel
theorem dX12_orderOf_18 : decode cX12_orderOf 18 = .ok (.ireturn, 1) := by decide +kernel
theorem dX12_orderOf_19 : decode cX12_orderOf 19 = .ok (.iload_n 2, 1) := by decide +kernel
theorem dX12_orderOf_20 : decode cX12_orderOf 20 = .ok (.iconst 0, 1) := by decide +kernel
theorem dX12_orderOf_21 : decode cX12_orderOf 21 = .ok (.iconst 5, 1) := by decide +kernel
theorem dX12_orderOf_22 : decode cX12_orderOf 22 = .ok (.invokestatic 64, 3) := by decide +kernel
theorem dX12_orderOf_25 : decode cX12_orderOf 25 = .ok (.ifCond .eq 12, 3) := by decide +kernel
theorem dX12_orderOf_28 : decode cX12_orderOf 28 = .ok (.aload_n 0, 1) := by decide +kernel
theorem dX12_orderOf_29 : decode cX12_orderOf 29 = .ok (.iload_n 1, 1) := by decide +kernel
theorem dX12_orderOf_30 : decode cX12_orderOf 30 = .ok (.iload_n 2, 1) := by decide +kernel
theorem dX12_orderOf_31 : decode cX12_orderOf 31 = .ok (.invokevirtual 118, 3) := by decide +kernel
theorem dX12_orderOf_34 : decode cX12_orderOf 34 = .ok (.goto 8, 3) := by decide +kernel
theorem dX12_orderOf_37 : decode cX12_orderOf 37 = .ok (.aload_n 0, 1) := by decide +kernel
theorem dX12_orderOf_38 : decode cX12_orderOf 38 = .ok (.iconst 2, 1) := by decide +kernel
theorem dX12_orderOf_39 : decode cX12_orderOf 39 = .ok (.invokevirtual 54, 3) := by decide +kernel
theorem dX12_orderOf_42 : decode cX12_orderOf 42 = .ok (.ireturn, 1) := by decide +kernel
theorem dX12_shots_0 : decode cX12_shots 0 = .ok (.aload_n 0, 1) := by decide +kernel
theorem dX12_shots_1 : decode cX12_shots 1 = .ok (.iconst 0, 1) := by decide +kernel
theorem dX12_shots_2 : decode cX12_shots 2 = .ok (.putfield 45, 3) := by decide +kernel
theorem dX12_shots_5 : decode cX12_shots 5 = .ok (.aload_n 0, 1) := by decide +kernel
theorem dX12_shots_6 : decode cX12_shots 6 = .ok (.iload_n 1, 1) := by decide +kernel
theorem dX12_shots_7 : decode cX12_shots 7 = .ok (.invokevirtual 121, 3) := by decide +kernel
theorem dX12_shots_10 : decode cX12_shots 10 = .ok (.ifCond .ne 9, 3) := by decide +kernel
theorem dX12_shots_13 : decode cX12_shots 13 = .ok (.aload_n 0, 1) := by decide +kernel
theorem dX12_shots_14 : decode cX12_shots 14 = .ok (.iconst 1, 1) := by decide +kernel
theorem dX12_shots_15 : decode cX12_shots 15 = .ok (.invokevirtual 54, 3) := by decide +kernel
theorem dX12_shots_18 : decode cX12_shots 18 = .ok (.ireturn, 1) := by decide +kernel
theorem dX12_shots_19 : decode cX12_shots 19 = .ok (.aload_n 0, 1) := by decide +kernel
theorem dX12_shots_20 : decode cX12_shots 20 = .ok (.iload_n 1, 1) := by decide +kernel
theorem dX12_shots_21 : decode cX12_shots 21 = .ok (.iconst 0, 1) := by decide +kernel
theorem dX12_shots_22 : decode cX12_shots 22 = .ok (.invokevirtual 118, 3) := by decide +kernel
theorem dX12_shots_25 : decode cX12_shots 25 = .ok (.istore_n 2, 1) := by decide +kernel
theorem dX12_shots_26 : decode cX12_shots 26 = .ok (.aload_n 0, 1) := by decide +kernel
theorem dX12_shots_27 : decode cX12_shots 27 = .ok (.getfield 9, 3) := by decide +kernel
theorem dX12_shots_30 : decode cX12_shots 30 = .ok (.iconst 4, 1) := by decide +kernel
theorem dX12_shots_31 : decode cX12_shots 31 = .ok (.iaload, 1) := by decide +kernel
theorem dX12_shots_32 : decode cX12_shots 32 = .ok (.istore_n 3, 1) := by decide +kernel
theorem dX12_shots_33 : decode cX12_shots 33 = .ok (.aload_n 0, 1) := by decide +kernel
theorem dX12_shots_34 : decode cX12_shots 34 = .ok (.iload_n 1, 1) := by decide +kernel
theorem dX12_shots_35 : decode cX12_shots 35 = .ok (.iconst 4, 1) := by decide +kernel
theorem dX12_shots_36 : decode cX12_shots 36 = .ok (.invokevirtual 118, 3) := by decide +kernel
theorem dX12_shots_39 : decode cX12_shots 39 = .ok (.ifCond .ne 16, 3) := by decide +kernel
theorem dX12_shots_42 : decode cX12_shots 42 = .ok (.iload_n 3, 1) := by decide +kernel
theorem dX12_shots_43 : decode cX12_shots 43 = .ok (.ifCond .lt 12, 3) := by decide +kernel
theorem dX12_shots_46 : decode cX12_shots 46 = .ok (.aload_n 0, 1) := by decide +kernel
theorem dX12_shots_47 : decode cX12_shots 47 = .ok (.iload_n 3, 1) := by decide +kernel
theorem dX12_shots_48 : decode cX12_shots 48 = .ok (.iload_n 2, 1) := by decide +kernel
theorem dX12_shots_49 : decode cX12_shots 49 = .ok (.invokevirtual 210, 3) := by decide +kernel
theorem dX12_shots_52 : decode cX12_shots 52 = .ok (.ifCond .ne 9, 3) := by decide +kernel
theorem dX12_shots_55 : decode cX12_shots 55 = .ok (.aload_n 0, 1) := by decide +kernel
theorem dX12_shots_56 : decode cX12_shots 56 = .ok (.iconst 2, 1) := by decide +kernel
theorem dX12_shots_57 : decode cX12_shots 57 = .ok (.invokevirtual 54, 3) := by decide +kernel
theorem dX12_shots_60 : decode cX12_shots 60 = .ok (.ireturn, 1) := by decide +kernel
theorem dX12_shots_61 : decode cX12_shots 61 = .ok (.iload_n 2, 1) := by decide +kernel
theorem dX12_shots_62 : decode cX12_shots 62 = .ok (.aload_n 0, 1) := by decide +kernel
theorem dX12_shots_63 : decode cX12_shots 63 = .ok (.iload_n 1, 1) := by decide +kernel
theorem dX12_shots_64 : decode cX12_shots 64 = .ok (.iconst 1, 1) := by decide +kernel
theorem dX12_shots_65 : decode cX12_shots 65 = .ok (.invokevirtual 118, 3) := by decide +kernel
theorem dX12_shots_68 : decode cX12_shots 68 = .ok (.invokestatic 68, 3) := by decide +kernel
theorem dX12_shots_71 : decode cX12_shots 71 = .ok (.istore 4, 2) := by decide +kernel
theorem dX12_shots_73 : decode cX12_shots 73 = .ok (.aload_n 0, 1) := by decide +kernel
theorem dX12_shots_74 : decode cX12_shots 74 = .ok (.iload_n 1, 1) := by decide +kernel
theorem dX12_shots_75 : decode cX12_shots 75 = .ok (.iconst 2, 1) := by decide +kernel
theorem dX12_shots_76 : decode cX12_shots 76 = .ok (.invokevirtual 118, 3) := by decide +kernel
theorem dX12_shots_79 : decode cX12_shots 79 = .ok (.aload_n 0, 1) := by decide +kernel
theorem dX12_shots_80 : decode cX12_shots 80 = .ok (.getfield 9, 3) := by decide +kernel
theorem dX12_shots_83 : decode cX12_shots 83 = .ok (.bipush 109, 2) := by decide +kernel
theorem dX12_shots_85 : decode cX12_shots 85 = .ok (.iload 4, 2) := by decide +kernel
theorem dX12_shots_87 : decode cX12_shots 87 = .ok (.iadd, 1) := by decide +kernel
theorem dX12_shots_88 : decode cX12_shots 88 = .ok (.iaload, 1) := by decide +kernel
theorem dX12_shots_89 : decode cX12_shots 89 = .ok (.isub, 1) := by decide +kernel
theorem dX12_shots_90 : decode cX12_shots 90 = .ok (.istore 5, 2) := by decide +kernel
theorem dX12_shots_92 : decode cX12_shots 92 = .ok (.iload 5, 2) := by decide +kernel
theorem dX12_shots_94 : decode cX12_shots 94 = .ok (.ifCond .gt 5, 3) := by decide +kernel
theorem dX12_shots_97 : decode cX12_shots 97 = .ok (.iconst 0, 1) := by decide +kernel
theorem dX12_shots_98 : decode cX12_shots 98 = .ok (.ireturn, 1) := by decide +kernel
theorem dX12_shots_99 : decode cX12_shots 99 = .ok (.iload 5, 2) := by decide +kernel
theorem dX12_shots_101 : decode cX12_shots 101 = .ok (.aload_n 0, 1) := by decide +kernel
theorem dX12_shots_102 : decode cX12_shots 102 = .ok (.getfield 9, 3) := by decide +kernel
theorem dX12_shots_105 : decode cX12_shots 105 = .ok (.bipush 22, 2) := by decide +kernel
theorem dX12_shots_107 : decode cX12_shots 107 = .ok (.iload_n 2, 1) := by decide +kernel
theorem dX12_shots_108 : decode cX12_shots 108 = .ok (.iadd, 1) := by decide +kernel
theorem dX12_shots_109 : decode cX12_shots 109 = .ok (.iaload, 1) := by decide +kernel
theorem dX12_shots_110 : decode cX12_shots 110 = .ok (.imul, 1) := by decide +kernel
theorem dX12_shots_111 : decode cX12_shots 111 = .ok (.aload_n 0, 1) := by decide +kernel
theorem dX12_shots_112 : decode cX12_shots 112 = .ok (.getfield 9, 3) := by decide +kernel
theorem dX12_shots_115 : decode cX12_shots 115 = .ok (.sipush 157, 3) := by decide +kernel
theorem dX12_shots_118 : decode cX12_shots 118 = .ok (.iload 4, 2) := by decide +kernel
theorem dX12_shots_120 : decode cX12_shots 120 = .ok (.iadd, 1) := by decide +kernel
theorem dX12_shots_121 : decode cX12_shots 121 = .ok (.iaload, 1) := by decide +kernel
theorem dX12_shots_122 : decode cX12_shots 122 = .ok (.isub, 1) := by decide +kernel
theorem dX12_shots_123 : decode cX12_shots 123 = .ok (.istore 6, 2) := by decide +kernel
theorem dX12_shots_125 : decode cX12_shots 125 = .ok (.aload_n 0, 1) := by decide +kernel
theorem dX12_shots_126 : decode cX12_shots 126 = .ok (.iload_n 3, 1) := by decide +kernel
theorem dX12_shots_127 : decode cX12_shots 127 = .ok (.iload_n 2, 1) := by decide +kernel
theorem dX12_shots_128 : decode cX12_shots 128 = .ok (.invokevirtual 210, 3) := by decide +kernel
theorem dX12_shots_131 : decode cX12_shots 131 = .ok (.istore 7, 2) := by decide +kernel
theorem dX12_shots_133 : decode cX12_shots 133 = .ok (.iload 6, 2) := by decide +kernel
theorem dX12_shots_135 : decode cX12_shots 135 = .ok (.iload 7, 2) := by decide +kernel
theorem dX12_shots_137 : decode cX12_shots 137 = .ok (.iadd, 1) := by decide +kernel
theorem dX12_shots_138 : decode cX12_shots 138 = .ok (.iconst 1, 1) := by decide +kernel
theorem dX12_shots_139 : decode cX12_shots 139 = .ok (.isub, 1) := by decide +kernel
theorem dX12_shots_140 : decode cX12_shots 140 = .ok (.iload 7, 2) := by decide +kernel
theorem dX12_shots_142 : decode cX12_shots 142 = .ok (.idiv, 1) := by decide +kernel
theorem dX12_shots_143 : decode cX12_shots 143 = .ok (.ireturn, 1) := by decide +kernel
theorem dX12_letter_0 : decode cX12_letter 0 = .ok (.aload_n 0, 1) := by decide +kernel
theorem dX12_letter_1 : decode cX12_letter 1 = .ok (.iconst 0, 1) := by decide +kernel
theorem dX12_letter_2 : decode cX12_letter 2 = .ok (.putfield 45, 3) := by decide +kernel
theorem dX12_letter_5 : decode cX12_letter 5 = .ok (.aload_n 0, 1) := by decide +kernel
theorem dX12_letter_6 : decode cX12_letter 6 = .ok (.iload_n 1, 1) := by decide +kernel
theorem dX12_letter_7 : decode cX12_letter 7 = .ok (.invokevirtual 121, 3) := by decide +kernel
theorem dX12_letter_10 : decode cX12_letter 10 = .ok (.ifCond .ne 10, 3) := by decide +kernel
theorem dX12_letter_13 : decode cX12_letter 13 = .ok (.aload_n 0, 1) := by decide +kernel
theorem dX12_letter_14 : decode cX12_letter 14 = .ok (.iconst 1, 1) := by decide +kernel
theorem dX12_letter_15 : decode cX12_letter 15 = .ok (.invokevirtual 54, 3) := by decide +kernel
theorem dX12_letter_18 : decode cX12_letter 18 = .ok (.i2c, 1) := by decide +kernel
theorem dX12_letter_19 : decode cX12_letter 19 = .ok (.ireturn, 1) := by decide +kernel
theorem dX12_letter_20 : decode cX12_letter 20 = .ok (.aload_n 0, 1) := by decide +kernel
theorem dX12_letter_21 : decode cX12_letter 21 = .ok (.iload_n 1, 1) := by decide +kernel
theorem dX12_letter_22 : decode cX12_letter 22 = .ok (.iconst 4, 1) := by decide +kernel
theorem dX12_letter_23 : decode cX12_letter 23 = .ok (.invokevirtual 118, 3) := by decide +kernel
theorem dX12_letter_26 : decode cX12_letter 26 = .ok (.lookupswitch 46 #[(0, 26), (1, 43)], 26) := by decide +kernel
theorem dX12_letter_52 : decode cX12_letter 52 = .ok (.aload_n 0, 1) := by decide +kernel
theorem dX12_letter_53 : decode cX12_letter 53 = .ok (.iload_n 1, 1) := by decide +kernel
theorem dX12_letter_54 : decode cX12_letter 54 = .ok (.iconst 5, 1) := by decide +kernel
theorem dX12_letter_55 : decode cX12_letter 55 = .ok (.invokevirtual 118, 3) := by decide +kernel
theorem dX12_letter_58 : decode cX12_letter 58 = .ok (.ifCond .le 8, 3) := by decide +kernel
theorem dX12_letter_61 : decode cX12_letter 61 = .ok (.bipush 108, 2) := by decide +kernel
theorem dX12_letter_63 : decode cX12_letter 63 = .ok (.goto 5, 3) := by decide +kernel
theorem dX12_letter_66 : decode cX12_letter 66 = .ok (.bipush 111, 2) := by decide +kernel
theorem dX12_letter_68 : decode cX12_letter 68 = .ok (.ireturn, 1) := by decide +kernel
theorem dX12_letter_69 : decode cX12_letter 69 = .ok (.bipush 100, 2) := by decide +kernel
theorem dX12_letter_71 : decode cX12_letter 71 = .ok (.ireturn, 1) := by decide +kernel
theorem dX12_letter_72 : decode cX12_letter 72 = .ok (.bipush 99, 2) := by decide +kernel
theorem dX12_letter_74 : decode cX12_letter 74 = .ok (.ireturn, 1) := by decide +kernel
theorem dX12_due_0 : decode cX12_due 0 = .ok (.aload_n 0, 1) := by decide +kernel
theorem dX12_due_1 : decode cX12_due 1 = .ok (.iconst 0, 1) := by decide +kernel
theorem dX12_due_2 : decode cX12_due 2 = .ok (.putfield 45, 3) := by decide +kernel
theorem dX12_due_5 : decode cX12_due 5 = .ok (.iload_n 1, 1) := by decide +kernel
theorem dX12_due_6 : decode cX12_due 6 = .ok (.ifCond .ge 9, 3) := by decide +kernel
theorem dX12_due_9 : decode cX12_due 9 = .ok (.aload_n 0, 1) := by decide +kernel
theorem dX12_due_10 : decode cX12_due 10 = .ok (.iconst 1, 1) := by decide +kernel
theorem dX12_due_11 : decode cX12_due 11 = .ok (.invokevirtual 54, 3) := by decide +kernel
theorem dX12_due_14 : decode cX12_due 14 = .ok (.ireturn, 1) := by decide +kernel
theorem dX12_due_15 : decode cX12_due 15 = .ok (.iconst 0, 1) := by decide +kernel
theorem dX12_due_16 : decode cX12_due 16 = .ok (.istore_n 2, 1) := by decide +kernel
theorem dX12_due_17 : decode cX12_due 17 = .ok (.iconst 0, 1) := by decide +kernel
theorem dX12_due_18 : decode cX12_due 18 = .ok (.istore_n 3, 1) := by decide +kernel
theorem dX12_due_19 : decode cX12_due 19 = .ok (.iload_n 3, 1) := by decide +kernel
theorem dX12_due_20 : decode cX12_due 20 = .ok (.aload_n 0, 1) := by decide +kernel
theorem dX12_due_21 : decode cX12_due 21 = .ok (.getfield 9, 3) := by decide +kernel
theorem dX12_due_24 : decode cX12_due 24 = .ok (.iconst 3, 1) := by decide +kernel
theorem dX12_due_25 : decode cX12_due 25 = .ok (.iaload, 1) := by decide +kernel
theorem dX12_due_26 : decode cX12_due 26 = .ok (.if_icmp .ge 34, 3) := by decide +kernel
theorem dX12_due_29 : decode cX12_due 29 = .ok (.aload_n 0, 1) := by decide +kernel
theorem dX12_due_30 : decode cX12_due 30 = .ok (.iload_n 3, 1) := by decide +kernel
theorem dX12_due_31 : decode cX12_due 31 = .ok (.iconst 4, 1) := by decide +kernel
theorem dX12_due_32 : decode cX12_due 32 = .ok (.invokevirtual 118, 3) := by decide +kernel
theorem dX12_due_35 : decode cX12_due 35 = .ok (.ifCond .ne 19, 3) := by decide +kernel
theorem dX12_due_38 : decode cX12_due 38 = .ok (.aload_n 0, 1) := by decide +kernel
theorem dX12_due_39 : decode cX12_due 39 = .ok (.iload_n 3, 1) := by decide +kernel
theorem dX12_due_40 : decode cX12_due 40 = .ok (.iconst 3, 1) := by decide +kernel
theorem dX12_due_41 : decode cX12_due 41 = .ok (.invokevirtual 118, 3) := by decide +kernel
theorem dX12_due_44 : decode cX12_due 44 = .ok (.iload_n 1, 1) := by decide +kernel
theorem dX12_due_45 : decode cX12_due 45 = .ok (.if_icmp .gt 9, 3) := by decide +kernel
theorem dX12_due_48 : decode cX12_due 48 = .ok (.iload_n 2, 1) := by decide +kernel
theorem dX12_due_49 : decode cX12_due 49 = .ok (.iconst 1, 1) := by decide +kernel
theorem dX12_due_50 : decode cX12_due 50 = .ok (.iload_n 3, 1) := by decide +kernel
theorem dX12_due_51 : decode cX12_due 51 = .ok (.ishl, 1) := by decide +kernel
theorem dX12_due_52 : decode cX12_due 52 = .ok (.ior, 1) := by decide +kernel
theorem dX12_due_53 : decode cX12_due 53 = .ok (.istore_n 2, 1) := by decide +kernel
theorem dX12_due_54 : decode cX12_due 54 = .ok (.iinc 3 1, 3) := by decide +kernel
theorem dX12_due_57 : decode cX12_due 57 = .ok (.goto (-38), 3) := by decide +kernel
theorem dX12_due_60 : decode cX12_due 60 = .ok (.iload_n 2, 1) := by decide +kernel
theorem dX12_due_61 : decode cX12_due 61 = .ok (.ireturn, 1) := by decide +kernel
theorem dX12_reason_0 : decode cX12_reason 0 = .ok (.aload_n 0, 1) := by decide +kernel
theorem dX12_reason_1 : decode cX12_reason 1 = .ok (.iconst 0, 1) := by decide +kernel
theorem dX12_reason_2 : decode cX12_reason 2 = .ok (.putfield 45, 3) := by decide +kernel
theorem dX12_reason_5 : decode cX12_reason 5 = .ok (.iload_n 1, 1) := by decide +kernel
theorem dX12_reason_6 : decode cX12_reason 6 = .ok (.ifCond .ge 9, 3) := by decide +kernel
theorem dX12_reason_9 : decode cX12_reason 9 = .ok (.aload_n 0, 1) := by decide +kernel
theorem dX12_reason_10 : decode cX12_reason 10 = .ok (.iconst 1, 1) := by decide +kernel
theorem dX12_reason_11 : decode cX12_reason 11 = .ok (.invokevirtual 54, 3) := by decide +kernel
theorem dX12_reason_14 : decode cX12_reason 14 = .ok (.ireturn, 1) := by decide +kernel
theorem dX12_reason_15 : decode cX12_reason 15 = .ok (.iload_n 1, 1) := by decide +kernel
theorem dX12_reason_16 : decode cX12_reason 16 = .ok (.aload_n 0, 1) := by decide +kernel
theorem dX12_reason_17 : decode cX12_reason 17 = .ok (.getfield 51, 3) := by decide +kernel
theorem dX12_reason_20 : decode cX12_reason 20 = .ok (.if_icmp .lt 9, 3) := by decide +kernel
theorem dX12_reason_23 : decode cX12_reason 23 = .ok (.aload_n 0, 1) := by decide +kernel
theorem dX12_reason_24 : decode cX12_reason 24 = .ok (.iconst 2, 1) := by decide +kernel
theorem dX12_reason_25 : decode cX12_reason 25 = .ok (.invokevirtual 54, 3) := by decide +kernel
theorem dX12_reason_28 : decode cX12_reason 28 = .ok (.ireturn, 1) := by decide +kernel
theorem dX12_reason_29 : decode cX12_reason 29 = .ok (.iload_n 2, 1) := by decide +kernel
theorem dX12_reason_30 : decode cX12_reason 30 = .ok (.ifCond .eq 12, 3) := by decide +kernel
theorem dX12_reason_33 : decode cX12_reason 33 = .ok (.aload_n 0, 1) := by decide +kernel
theorem dX12_reason_34 : decode cX12_reason 34 = .ok (.getfield 33, 3) := by decide +kernel
theorem dX12_reason_37 : decode cX12_reason 37 = .ok (.iload_n 1, 1) := by decide +kernel
theorem dX12_reason_38 : decode cX12_reason 38 = .ok (.iaload, 1) := by decide +kernel
theorem dX12_reason_39 : decode cX12_reason 39 = .ok (.goto 9, 3) := by decide +kernel
theorem dX12_reason_42 : decode cX12_reason 42 = .ok (.aload_n 0, 1) := by decide +kernel
theorem dX12_reason_43 : decode cX12_reason 43 = .ok (.getfield 30, 3) := by decide +kernel
theorem dX12_reason_46 : decode cX12_reason 46 = .ok (.iload_n 1, 1) := by decide +kernel
theorem dX12_reason_47 : decode cX12_reason 47 = .ok (.iaload, 1) := by decide +kernel
theorem dX12_reason_48 : decode cX12_reason 48 = .ok (.ireturn, 1) := by decide +kernel
theorem dX12_scrap_0 : decode cX12_scrap 0 = .ok (.aload_n 0, 1) := by decide +kernel
theorem dX12_scrap_1 : decode cX12_scrap 1 = .ok (.iconst 0, 1) := by decide +kernel
theorem dX12_scrap_2 : decode cX12_scrap 2 = .ok (.putfield 45, 3) := by decide +kernel
theorem dX12_scrap_5 : decode cX12_scrap 5 = .ok (.iconst 0, 1) := by decide +kernel
theorem dX12_scrap_6 : decode cX12_scrap 6 = .ok (.istore_n 1, 1) := by decide +kernel
theorem dX12_scrap_7 : decode cX12_scrap 7 = .ok (.iconst 0, 1) := by decide +kernel
theorem dX12_scrap_8 : decode cX12_scrap 8 = .ok (.istore_n 2, 1) := by decide +kernel
theorem dX12_scrap_9 : decode cX12_scrap 9 = .ok (.iconst 0, 1) := by decide +kernel
theorem dX12_scrap_10 : decode cX12_scrap 10 = .ok (.istore_n 3, 1) := by decide +kernel
theorem dX12_scrap_11 : decode cX12_scrap 11 = .ok (.iload_n 3, 1) := by decide +kernel
theorem dX12_scrap_12 : decode cX12_scrap 12 = .ok (.bipush 8, 2) := by decide +kernel
theorem dX12_scrap_14 : decode cX12_scrap 14 = .ok (.if_icmp .ge 33, 3) := by decide +kernel
theorem dX12_scrap_17 : decode cX12_scrap 17 = .ok (.iload_n 1, 1) := by decide +kernel
theorem dX12_scrap_18 : decode cX12_scrap 18 = .ok (.aload_n 0, 1) := by decide +kernel
theorem dX12_scrap_19 : decode cX12_scrap 19 = .ok (.getfield 9, 3) := by decide +kernel
theorem dX12_scrap_22 : decode cX12_scrap 22 = .ok (.bipush 30, 2) := by decide +kernel
theorem dX12_scrap_24 : decode cX12_scrap 24 = .ok (.iload_n 3, 1) := by decide +kernel
theorem dX12_scrap_25 : decode cX12_scrap 25 = .ok (.iadd, 1) := by decide +kernel
theorem dX12_scrap_26 : decode cX12_scrap 26 = .ok (.iaload, 1) := by decide +kernel
theorem dX12_scrap_27 : decode cX12_scrap 27 = .ok (.iadd, 1) := by decide +kernel
theorem dX12_scrap_28 : decode cX12_scrap 28 = .ok (.istore_n 1, 1) := by decide +kernel
theorem dX12_scrap_29 : decode cX12_scrap 29 = .ok (.iload_n 2, 1) := by decide +kernel
theorem dX12_scrap_30 : decode cX12_scrap 30 = .ok (.aload_n 0, 1) := by decide +kernel
theorem dX12_scrap_31 : decode cX12_scrap 31 = .ok (.getfield 9, 3) := by decide +kernel
theorem dX12_scrap_34 : decode cX12_scrap 34 = .ok (.bipush 38, 2) := by decide +kernel
theorem dX12_scrap_36 : decode cX12_scrap 36 = .ok (.iload_n 3, 1) := by decide +kernel
theorem dX12_scrap_37 : decode cX12_scrap 37 = .ok (.iadd, 1) := by decide +kernel
theorem dX12_scrap_38 : decode cX12_scrap 38 = .ok (.iaload, 1) := by decide +kernel
theorem dX12_scrap_39 : decode cX12_scrap 39 = .ok (.iadd, 1) := by decide +kernel
theorem dX12_scrap_40 : decode cX12_scrap 40 = .ok (.istore_n 2, 1) := by decide +kernel
theorem dX12_scrap_41 : decode cX12_scrap 41 = .ok (.iinc 3 1, 3) := by decide +kernel
theorem dX12_scrap_44 : decode cX12_scrap 44 = .ok (.goto (-33), 3) := by decide +kernel
theorem dX12_scrap_47 : decode cX12_scrap 47 = .ok (.iload_n 1, 1) := by decide +kernel
theorem dX12_scrap_48 : decode cX12_scrap 48 = .ok (.ifCond .ne 12, 3) := by decide +kernel
theorem dX12_scrap_51 : decode cX12_scrap 51 = .ok (.aload_n 0, 1) := by decide +kernel
theorem dX12_scrap_52 : decode cX12_scrap 52 = .ok (.iconst 1, 1) := by decide +kernel
theorem dX12_scrap_53 : decode cX12_scrap 53 = .ok (.invokevirtual 54, 3) := by decide +kernel
theorem dX12_scrap_56 : decode cX12_scrap 56 = .ok (.i2f, 1) := by decide +kernel
theorem dX12_scrap_57 : decode cX12_scrap 57 = .ok (.goto 8, 3) := by decide +kernel
theorem dX12_scrap_60 : decode cX12_scrap 60 = .ok (.iload_n 2, 1) := by decide +kernel
theorem dX12_scrap_61 : decode cX12_scrap 61 = .ok (.i2f, 1) := by decide +kernel
theorem dX12_scrap_62 : decode cX12_scrap 62 = .ok (.iload_n 1, 1) := by decide +kernel
theorem dX12_scrap_63 : decode cX12_scrap 63 = .ok (.i2f, 1) := by decide +kernel
theorem dX12_scrap_64 : decode cX12_scrap 64 = .ok (.fdiv, 1) := by decide +kernel
theorem dX12_scrap_65 : decode cX12_scrap 65 = .ok (.freturn, 1) := by decide +kernel
theorem dX12_lateness_0 : decode cX12_lateness 0 = .ok (.aload_n 0, 1) := by decide +kernel
theorem dX12_lateness_1 : decode cX12_lateness 1 = .ok (.iconst 0, 1) := by decide +kernel
theorem dX12_lateness_2 : decode cX12_lateness 2 = .ok (.putfield 45, 3) := by decide +kernel
theorem dX12_lateness_5 : decode cX12_lateness 5 = .ok (.iconst 0, 1) := by decide +kernel
theorem dX12_lateness_6 : decode cX12_lateness 6 = .ok (.istore_n 1, 1) := by decide +kernel
theorem dX12_lateness_7 : decode cX12_lateness 7 = .ok (.iconst 0, 1) := by decide +kernel
theorem dX12_lateness_8 : decode cX12_lateness 8 = .ok (.istore_n 2, 1) := by decide +kernel
theorem dX12_lateness_9 : decode cX12_lateness 9 = .ok (.iconst 0, 1) := by decide +kernel
theorem dX12_lateness_10 : decode cX12_lateness 10 = .ok (.istore_n 3, 1) := by decide +kernel
theorem dX12_lateness_11 : decode cX12_lateness 11 = .ok (.iload_n 3, 1) := by decide +kernel
theorem dX12_lateness_12 : decode cX12_lateness 12 = .ok (.aload_n 0, 1) := by decide +kernel
theorem dX12_lateness_13 : decode cX12_lateness 13 = .ok (.getfield 9, 3) := by decide +kernel
theorem dX12_lateness_16 : decode cX12_lateness 16 = .ok (.iconst 3, 1) := by decide +kernel
theorem dX12_lateness_17 : decode cX12_lateness 17 = .ok (.iaload, 1) := by decide +kernel
theorem dX12_lateness_18 : decode cX12_lateness 18 = .ok (.if_icmp .ge 34, 3) := by decide +kernel
theorem dX12_lateness_21 : decode cX12_lateness 21 = .ok (.aload_n 0, 1) := by decide +kernel
theorem dX12_lateness_22 : decode cX12_lateness 22 = .ok (.iload_n 3, 1) := by decide +kernel
theorem dX12_lateness_23 : decode cX12_lateness 23 = .ok (.iconst 4, 1) := by decide +kernel
theorem dX12_lateness_24 : decode cX12_lateness 24 = .ok (.invokevirtual 118, 3) := by decide +kernel
theorem dX12_lateness_27 : decode cX12_lateness 27 = .ok (.iconst 1, 1) := by decide +kernel
theorem dX12_lateness_28 : decode cX12_lateness 28 = .ok (.if_icmp .eq 6, 3) := by decide +kernel
theorem dX12_lateness_31 : decode cX12_lateness 31 = .ok (.goto 15, 3) := by decide +kernel
theorem dX12_lateness_34 : decode cX12_lateness 34 = .ok (.iload_n 1, 1) := by decide +kernel
theorem dX12_lateness_35 : decode cX12_lateness 35 = .ok (.aload_n 0, 1) := by decide +kernel
theorem dX12_lateness_36 : decode cX12_lateness 36 = .ok (.iload_n 3, 1) := by decide +kernel
theorem dX12_lateness_37 : decode cX12_lateness 37 = .ok (.iconst 5, 1) := by decide +kernel
theorem dX12_lateness_38 : decode cX12_lateness 38 = .ok (.invokevirtual 118, 3) := by decide +kernel
theorem dX12_lateness_41 : decode cX12_lateness 41 = .ok (.iadd, 1) := by decide +kernel
theorem dX12_lateness_42 : decode cX12_lateness 42 = .ok (.istore_n 1, 1) := by decide +kernel
theorem dX12_lateness_43 : decode cX12_lateness 43 = .ok (.iinc 2 1, 3) := by decide +kernel
theorem dX12_lateness_46 : decode cX12_lateness 46 = .ok (.iinc 3 1, 3) := by decide +kernel
theorem dX12_lateness_49 : decode cX12_lateness 49 = .ok (.goto (-38), 3) := by decide +kernel
theorem dX12_lateness_52 : decode cX12_lateness 52 = .ok (.iload_n 2, 1) := by decide +kernel
theorem dX12_lateness_53 : decode cX12_lateness 53 = .ok (.ifCond .ne 12, 3) := by decide +kernel
theorem dX12_lateness_56 : decode cX12_lateness 56 = .ok (.aload_n 0, 1) := by decide +kernel
theorem dX12_lateness_57 : decode cX12_lateness 57 = .ok (.iconst 1, 1) := by decide +kernel
theorem dX12_lateness_58 : decode cX12_lateness 58 = .ok (.invokevirtual 54, 3) := by decide +kernel
theorem dX12_lateness_61 : decode cX12_lateness 61 = .ok (.i2d, 1) := by decide +kernel
theorem dX12_lateness_62 : decode cX12_lateness 62 = .ok (.goto 8, 3) := by decide +kernel
theorem dX12_lateness_65 : decode cX12_lateness 65 = .ok (.iload_n 1, 1) := by decide +kernel
theorem dX12_lateness_66 : decode cX12_lateness 66 = .ok (.i2d, 1) := by decide +kernel
theorem dX12_lateness_67 : decode cX12_lateness 67 = .ok (.iload_n 2, 1) := by decide +kernel
theorem dX12_lateness_68 : decode cX12_lateness 68 = .ok (.i2d, 1) := by decide +kernel
theorem dX12_lateness_69 : decode cX12_lateness 69 = .ok (.ddiv, 1) := by decide +kernel
theorem dX12_lateness_70 : decode cX12_lateness 70 = .ok (.dreturn, 1) := by decide +kernel
theorem dX12_account_0 : decode cX12_account 0 = .ok (.aload_n 0, 1) := by decide +kernel
theorem dX12_account_1 : decode cX12_account 1 = .ok (.iconst 0, 1) := by decide +kernel
theorem dX12_account_2 : decode cX12_account 2 = .ok (.putfield 45, 3) := by decide +kernel
theorem dX12_account_5 : decode cX12_account 5 = .ok (.iconst 0, 1) := by decide +kernel
theorem dX12_account_6 : decode cX12_account 6 = .ok (.istore_n 2, 1) := by decide +kernel
theorem dX12_account_7 : decode cX12_account 7 = .ok (.iload_n 1, 1) := by decide +kernel
theorem dX12_account_8 : decode cX12_account 8 = .ok (.tableswitch 233 0 18 #[92, 99, 106, 113, 120, 125, 133, 141, 148, 155, 186, 194, 202, 210, 215, 220, 220, 220, 220], 92) := by decide +kernel
theorem dX12_account_100 : decode cX12_account 100 = .ok (.aload_n 0, 1) := by decide +kernel
theorem dX12_account_101 : decode cX12_account 101 = .ok (.getfield 9, 3) := by decide +kernel
theorem dX12_account_104 : decode cX12_account 104 = .ok (.iconst 0, 1) := by decide +kernel
theorem dX12_account_105 : decode cX12_account 105 = .ok (.iaload, 1) := by decide +kernel
theorem dX12_account_106 : decode cX12_account 106 = .ok (.ireturn, 1) := by decide +kernel
theorem dX12_account_107 : decode cX12_account 107 = .ok (.aload_n 0, 1) := by decide +kernel
theorem dX12_account_108 : decode cX12_account 108 = .ok (.getfield 9, 3) := by decide +kernel
theorem dX12_account_111 : decode cX12_account 111 = .ok (.iconst 1, 1) := by decide +kernel
theorem dX12_account_112 : decode cX12_account 112 = .ok (.iaload, 1) := by decide +kernel
theorem dX12_account_113 : decode cX12_account 113 = .ok (.ireturn, 1) := by decide +kernel
theorem dX12_account_114 : decode cX12_account 114 = .ok (.aload_n 0, 1) := by decide +kernel
theorem dX12_account_115 : decode cX12_account 115 = .ok (.getfield 9, 3) := by decide +kernel
theorem dX12_account_118 : decode cX12_account 118 = .ok (.iconst 2, 1) := by decide +kernel
theorem dX12_account_119 : decode cX12_account 119 = .ok (.iaload, 1) := by decide +kernel
theorem dX12_account_120 : decode cX12_account 120 = .ok (.ireturn, 1) := by decide +kernel
theorem dX12_account_121 : decode cX12_account 121 = .ok (.aload_n 0, 1) := by decide +kernel
theorem dX12_account_122 : decode cX12_account 122 = .ok (.getfield 9, 3) := by decide +kernel
theorem dX12_account_125 : decode cX12_account 125 = .ok (.iconst 3, 1) := by decide +kernel
theorem dX12_account_126 : decode cX12_account 126 = .ok (.iaload, 1) := by decide +kernel
theorem dX12_account_127 : decode cX12_account 127 = .ok (.ireturn, 1) := by decide +kernel
theorem dX12_account_128 : decode cX12_account 128 = .ok (.aload_n 0, 1) := by decide +kernel
theorem dX12_account_129 : decode cX12_account 129 = .ok (.invokevirtual 124, 3) := by decide +kernel
theorem dX12_account_132 : decode cX12_account 132 = .ok (.ireturn, 1) := by decide +kernel
theorem dX12_account_133 : decode cX12_account 133 = .ok (.aload_n 0, 1) := by decide +kernel
theorem dX12_account_134 : decode cX12_account 134 = .ok (.getfield 9, 3) := by decide +kernel
theorem dX12_account_137 : decode cX12_account 137 = .ok (.bipush 6, 2) := by decide +kernel
theorem dX12_account_139 : decode cX12_account 139 = .ok (.iaload, 1) := by decide +kernel
theorem dX12_account_140 : decode cX12_account 140 = .ok (.ireturn, 1) := by decide +kernel
theorem dX12_account_141 : decode cX12_account 141 = .ok (.aload_n 0, 1) := by decide +kernel
theorem dX12_account_142 : decode cX12_account 142 = .ok (.getfield 9, 3) := by decide +kernel
theorem dX12_account_145 : decode cX12_account 145 = .ok (.bipush 7, 2) := by decide +kernel
theorem dX12_account_147 : decode cX12_account 147 = .ok (.iaload, 1) := by decide +kernel
theorem dX12_account_148 : decode cX12_account 148 = .ok (.ireturn, 1) := by decide +kernel
theorem dX12_account_149 : decode cX12_account 149 = .ok (.aload_n 0, 1) := by decide +kernel
theorem dX12_account_150 : decode cX12_account 150 = .ok (.getfield 9, 3) := by decide +kernel
theorem dX12_account_153 : decode cX12_account 153 = .ok (.iconst 5, 1) := by decide +kernel
theorem dX12_account_154 : decode cX12_account 154 = .ok (.iaload, 1) := by decide +kernel
theorem dX12_account_155 : decode cX12_account 155 = .ok (.ireturn, 1) := by decide +kernel
theorem dX12_account_156 : decode cX12_account 156 = .ok (.aload_n 0, 1) := by decide +kernel
theorem dX12_account_157 : decode cX12_account 157 = .ok (.getfield 9, 3) := by decide +kernel
theorem dX12_account_160 : decode cX12_account 160 = .ok (.iconst 4, 1) := by decide +kernel
theorem dX12_account_161 : decode cX12_account 161 = .ok (.iaload, 1) := by decide +kernel
theorem dX12_account_162 : decode cX12_account 162 = .ok (.ireturn, 1) := by decide +kernel
theorem dX12_account_163 : decode cX12_account 163 = .ok (.iconst 0, 1) := by decide +kernel
theorem dX12_account_164 : decode cX12_account 164 = .ok (.istore_n 3, 1) := by decide +kernel
theorem dX12_account_165 : decode cX12_account 165 = .ok (.iload_n 3, 1) := by decide +kernel
theorem dX12_account_166 : decode cX12_account 166 = .ok (.iconst 3, 1) := by decide +kernel
theorem dX12_account_167 : decode cX12_account 167 = .ok (.if_icmp .ge 25, 3) := by decide +kernel
theorem dX12_account_170 : decode cX12_account 170 = .ok (.iload_n 2, 1) := by decide +kernel
theorem dX12_account_171 : decode cX12_account 171 = .ok (.aload_n 0, 1) := by decide +kernel
theorem dX12_account_172 : decode cX12_account 172 = .ok (.getfield 9, 3) := by decide +kernel
theorem dX12_account_175 : decode cX12_account 175 = .ok (.bipush 100, 2) := by decide +kernel
theorem dX12_account_177 : decode cX12_account 177 = .ok (.iconst 3, 1) := by decide +kernel
theorem dX12_account_178 : decode cX12_account 178 = .ok (.iload_n 3, 1) := by decide +kernel
theorem dX12_account_179 : decode cX12_account 179 = .ok (.imul, 1) := by decide +kernel
theorem dX12_account_180 : decode cX12_account 180 = .ok (.iadd, 1) := by decide +kernel
theorem dX12_account_181 : decode cX12_account 181 = .ok (.iconst 1, 1) := by decide +kernel
theorem dX12_account_182 : decode cX12_account 182 = .ok (.iadd, 1) := by decide +kernel
theorem dX12_account_183 : decode cX12_account 183 = .ok (.iaload, 1) := by decide +kernel
theorem dX12_account_184 : decode cX12_account 184 = .ok (.iadd, 1) := by decide +kernel
theorem dX12_account_185 : decode cX12_account 185 = .ok (.istore_n 2, 1) := by decide +kernel
theorem dX12_account_186 : decode cX12_account 186 = .ok (.iinc 3 1, 3) := by decide +kernel
theorem dX12_account_189 : decode cX12_account 189 = .ok (.goto (-24), 3) := by decide +kernel
theorem dX12_account_192 : decode cX12_account 192 = .ok (.iload_n 2, 1) := by decide +kernel
theorem dX12_account_193 : decode cX12_account 193 = .ok (.ireturn, 1) := by decide +kernel
theorem dX12_account_194 : decode cX12_account 194 = .ok (.aload_n 0, 1) := by decide +kernel
theorem dX12_account_195 : decode cX12_account 195 = .ok (.getfield 9, 3) := by decide +kernel
theorem dX12_account_198 : decode cX12_account 198 = .ok (.bipush 9, 2) := by decide +kernel
theorem dX12_account_200 : decode cX12_account 200 = .ok (.iaload, 1) := by decide +kernel
theorem dX12_account_201 : decode cX12_account 201 = .ok (.ireturn, 1) := by decide +kernel
theorem dX12_account_202 : decode cX12_account 202 = .ok (.aload_n 0, 1) := by decide +kernel
theorem dX12_account_203 : decode cX12_account 203 = .ok (.getfield 9, 3) := by decide +kernel
theorem dX12_account_206 : decode cX12_account 206 = .ok (.bipush 10, 2) := by decide +kernel
theorem dX12_account_208 : decode cX12_account 208 = .ok (.iaload, 1) := by decide +kernel
theorem dX12_account_209 : decode cX12_account 209 = .ok (.ireturn, 1) := by decide +kernel
theorem dX12_account_210 : decode cX12_account 210 = .ok (.aload_n 0, 1) := by decide +kernel
theorem dX12_account_211 : decode cX12_account 211 = .ok (.getfield 9, 3) := by decide +kernel
theorem dX12_account_214 : decode cX12_account 214 = .ok (.bipush 11, 2) := by decide +kernel
theorem dX12_account_216 : decode cX12_account 216 = .ok (.iaload, 1) := by decide +kernel
theorem dX12_account_217 : decode cX12_account 217 = .ok (.ireturn, 1) := by decide +kernel
theorem dX12_account_218 : decode cX12_account 218 = .ok (.aload_n 0, 1) := by decide +kernel
theorem dX12_account_219 : decode cX12_account 219 = .ok (.getfield 48, 3) := by decide +kernel
theorem dX12_account_222 : decode cX12_account 222 = .ok (.ireturn, 1) := by decide +kernel
theorem dX12_account_223 : decode cX12_account 223 = .ok (.aload_n 0, 1) := by decide +kernel
theorem dX12_account_224 : decode cX12_account 224 = .ok (.getfield 128, 3) := by decide +kernel
theorem dX12_account_227 : decode cX12_account 227 = .ok (.ireturn, 1) := by decide +kernel
theorem dX12_account_228 : decode cX12_account 228 = .ok (.aload_n 0, 1) := by decide +kernel
theorem dX12_account_229 : decode cX12_account 229 = .ok (.getfield 9, 3) := by decide +kernel
theorem dX12_account_232 : decode cX12_account 232 = .ok (.bipush 12, 2) := by decide +kernel
theorem dX12_account_234 : decode cX12_account 234 = .ok (.iload_n 1, 1) := by decide +kernel
theorem dX12_account_235 : decode cX12_account 235 = .ok (.iadd, 1) := by decide +kernel
theorem dX12_account_236 : decode cX12_account 236 = .ok (.bipush 15, 2) := by decide +kernel
theorem dX12_account_238 : decode cX12_account 238 = .ok (.isub, 1) := by decide +kernel
theorem dX12_account_239 : decode cX12_account 239 = .ok (.iaload, 1) := by decide +kernel
theorem dX12_account_240 : decode cX12_account 240 = .ok (.ireturn, 1) := by decide +kernel
theorem dX12_account_241 : decode cX12_account 241 = .ok (.aload_n 0, 1) := by decide +kernel
theorem dX12_account_242 : decode cX12_account 242 = .ok (.iconst 1, 1) := by decide +kernel
theorem dX12_account_243 : decode cX12_account 243 = .ok (.invokevirtual 54, 3) := by decide +kernel
theorem dX12_account_246 : decode cX12_account 246 = .ok (.ireturn, 1) := by decide +kernel
theorem dX12_undo_0 : decode cX12_undo 0 = .ok (.aload_n 0, 1) := by decide +kernel
theorem dX12_undo_1 : decode cX12_undo 1 = .ok (.iconst 0, 1) := by decide +kernel
theorem dX12_undo_2 : decode cX12_undo 2 = .ok (.putfield 45, 3) := by decide +kernel
theorem dX12_undo_5 : decode cX12_undo 5 = .ok (.aload_n 0, 1) := by decide +kernel
theorem dX12_undo_6 : decode cX12_undo 6 = .ok (.getfield 48, 3) := by decide +kernel
theorem dX12_undo_9 : decode cX12_undo 9 = .ok (.ifCond .ne 9, 3) := by decide +kernel
theorem dX12_undo_12 : decode cX12_undo 12 = .ok (.aload_n 0, 1) := by decide +kernel
theorem dX12_undo_13 : decode cX12_undo 13 = .ok (.iconst 1, 1) := by decide +kernel
theorem dX12_undo_14 : decode cX12_undo 14 = .ok (.invokevirtual 54, 3) := by decide +kernel
theorem dX12_undo_17 : decode cX12_undo 17 = .ok (.ireturn, 1) := by decide +kernel
theorem dX12_undo_18 : decode cX12_undo 18 = .ok (.aload_n 0, 1) := by decide +kernel
theorem dX12_undo_19 : decode cX12_undo 19 = .ok (.dup, 1) := by decide +kernel
theorem dX12_undo_20 : decode cX12_undo 20 = .ok (.getfield 48, 3) := by decide +kernel
theorem dX12_undo_23 : decode cX12_undo 23 = .ok (.iconst 1, 1) := by decide +kernel
theorem dX12_undo_24 : decode cX12_undo 24 = .ok (.isub, 1) := by decide +kernel
theorem dX12_undo_25 : decode cX12_undo 25 = .ok (.putfield 48, 3) := by decide +kernel
theorem dX12_undo_28 : decode cX12_undo 28 = .ok (.iconst 0, 1) := by decide +kernel
theorem dX12_undo_29 : decode cX12_undo 29 = .ok (.istore_n 1, 1) := by decide +kernel
theorem dX12_undo_30 : decode cX12_undo 30 = .ok (.iload_n 1, 1) := by decide +kernel
theorem dX12_undo_31 : decode cX12_undo 31 = .ok (.sipush 313, 3) := by decide +kernel
theorem dX12_undo_34 : decode cX12_undo 34 = .ok (.if_icmp .ge 30, 3) := by decide +kernel
theorem dX12_undo_37 : decode cX12_undo 37 = .ok (.aload_n 0, 1) := by decide +kernel
theorem dX12_undo_38 : decode cX12_undo 38 = .ok (.getfield 9, 3) := by decide +kernel
theorem dX12_undo_41 : decode cX12_undo 41 = .ok (.iload_n 1, 1) := by decide +kernel
theorem dX12_undo_42 : decode cX12_undo 42 = .ok (.aload_n 0, 1) := by decide +kernel
theorem dX12_undo_43 : decode cX12_undo 43 = .ok (.getfield 16, 3) := by decide +kernel
theorem dX12_undo_46 : decode cX12_undo 46 = .ok (.sipush 313, 3) := by decide +kernel
theorem dX12_undo_49 : decode cX12_undo 49 = .ok (.aload_n 0, 1) := by decide +kernel
theorem dX12_undo_50 : decode cX12_undo 50 = .ok (.getfield 48, 3) := by decide +kernel
theorem dX12_undo_53 : decode cX12_undo 53 = .ok (.imul, 1) := by decide +kernel
theorem dX12_undo_54 : decode cX12_undo 54 = .ok (.iload_n 1, 1) := by decide +kernel
theorem dX12_undo_55 : decode cX12_undo 55 = .ok (.iadd, 1) := by decide +kernel
theorem dX12_undo_56 : decode cX12_undo 56 = .ok (.iaload, 1) := by decide +kernel
theorem dX12_undo_57 : decode cX12_undo 57 = .ok (.iastore, 1) := by decide +kernel
theorem dX12_undo_58 : decode cX12_undo 58 = .ok (.iinc 1 1, 3) := by decide +kernel
theorem dX12_undo_61 : decode cX12_undo 61 = .ok (.goto (-31), 3) := by decide +kernel
theorem dX12_undo_64 : decode cX12_undo 64 = .ok (.aload_n 0, 1) := by decide +kernel
theorem dX12_undo_65 : decode cX12_undo 65 = .ok (.getfield 48, 3) := by decide +kernel
theorem dX12_undo_68 : decode cX12_undo 68 = .ok (.ireturn, 1) := by decide +kernel
theorem dX12_save_0 : decode cX12_save 0 = .ok (.aload_n 0, 1) := by decide +kernel
theorem dX12_save_1 : decode cX12_save 1 = .ok (.iconst 0, 1) := by decide +kernel
theorem dX12_save_2 : decode cX12_save 2 = .ok (.putfield 45, 3) := by decide +kernel
theorem dX12_save_5 : decode cX12_save 5 = .ok (.aload_n 0, 1) := by decide +kernel
theorem dX12_save_6 : decode cX12_save 6 = .ok (.iconst 1, 1) := by decide +kernel
theorem dX12_save_7 : decode cX12_save 7 = .ok (.putfield 213, 3) := by decide +kernel
theorem dX12_save_10 : decode cX12_save 10 = .ok (.iconst 0, 1) := by decide +kernel
theorem dX12_save_11 : decode cX12_save 11 = .ok (.istore_n 1, 1) := by decide +kernel
theorem dX12_save_12 : decode cX12_save 12 = .ok (.iload_n 1, 1) := by decide +kernel
theorem dX12_save_13 : decode cX12_save 13 = .ok (.sipush 313, 3) := by decide +kernel
theorem dX12_save_16 : decode cX12_save 16 = .ok (.if_icmp .ge 21, 3) := by decide +kernel
theorem dX12_save_19 : decode cX12_save 19 = .ok (.aload_n 0, 1) := by decide +kernel
theorem dX12_save_20 : decode cX12_save 20 = .ok (.getfield 19, 3) := by decide +kernel
theorem dX12_save_23 : decode cX12_save 23 = .ok (.iload_n 1, 1) := by decide +kernel
theorem dX12_save_24 : decode cX12_save 24 = .ok (.aload_n 0, 1) := by decide +kernel
theorem dX12_save_25 : decode cX12_save 25 = .ok (.getfield 9, 3) := by decide +kernel
theorem dX12_save_28 : decode cX12_save 28 = .ok (.iload_n 1, 1) := by decide +kernel
theorem dX12_save_29 : decode cX12_save 29 = .ok (.iaload, 1) := by decide +kernel
theorem dX12_save_30 : decode cX12_save 30 = .ok (.iastore, 1) := by decide +kernel
theorem dX12_save_31 : decode cX12_save 31 = .ok (.iinc 1 1, 3) := by decide +kernel
theorem dX12_save_34 : decode cX12_save 34 = .ok (.goto (-22), 3) := by decide +kernel
theorem dX12_save_37 : decode cX12_save 37 = .ok (.aload_n 0, 1) := by decide +kernel
theorem dX12_save_38 : decode cX12_save 38 = .ok (.getfield 9, 3) := by decide +kernel
theorem dX12_save_41 : decode cX12_save 41 = .ok (.iconst 3, 1) := by decide +kernel
theorem dX12_save_42 : decode cX12_save 42 = .ok (.iaload, 1) := by decide +kernel
theorem dX12_save_43 : decode cX12_save 43 = .ok (.ireturn, 1) := by decide +kernel
theorem dX12_restore_0 : decode cX12_restore 0 = .ok (.aload_n 0, 1) := by decide +kernel
theorem dX12_restore_1 : decode cX12_restore 1 = .ok (.iconst 0, 1) := by decide +kernel
theorem dX12_restore_2 : decode cX12_restore 2 = .ok (.putfield 45, 3) := by decide +kernel
theorem dX12_restore_5 : decode cX12_restore 5 = .ok (.aload_n 0, 1) := by decide +kernel
theorem dX12_restore_6 : decode cX12_restore 6 = .ok (.getfield 213, 3) := by decide +kernel
theorem dX12_restore_9 : decode cX12_restore 9 = .ok (.ifCond .ne 9, 3) := by decide +kernel
theorem dX12_restore_12 : decode cX12_restore 12 = .ok (.aload_n 0, 1) := by decide +kernel
theorem dX12_restore_13 : decode cX12_restore 13 = .ok (.iconst 1, 1) := by decide +kernel
theorem dX12_restore_14 : decode cX12_restore 14 = .ok (.invokevirtual 54, 3) := by decide +kernel
theorem dX12_restore_17 : decode cX12_restore 17 = .ok (.ireturn, 1) := by decide +kernel
theorem dX12_restore_18 : decode cX12_restore 18 = .ok (.iconst 0, 1) := by decide +kernel
theorem dX12_restore_19 : decode cX12_restore 19 = .ok (.istore_n 1, 1) := by decide +kernel
theorem dX12_restore_20 : decode cX12_restore 20 = .ok (.iload_n 1, 1) := by decide +kernel
theorem dX12_restore_21 : decode cX12_restore 21 = .ok (.sipush 313, 3) := by decide +kernel
theorem dX12_restore_24 : decode cX12_restore 24 = .ok (.if_icmp .ge 21, 3) := by decide +kernel
theorem dX12_restore_27 : decode cX12_restore 27 = .ok (.aload_n 0, 1) := by decide +kernel
theorem dX12_restore_28 : decode cX12_restore 28 = .ok (.getfield 9, 3) := by decide +kernel
theorem dX12_restore_31 : decode cX12_restore 31 = .ok (.iload_n 1, 1) := by decide +kernel
theorem dX12_restore_32 : decode cX12_restore 32 = .ok (.aload_n 0, 1) := by decide +kernel
theorem dX12_restore_33 : decode cX12_restore 33 = .ok (.getfield 19, 3) := by decide +kernel
theorem dX12_restore_36 : decode cX12_restore 36 = .ok (.iload_n 1, 1) := by decide +kernel
theorem dX12_restore_37 : decode cX12_restore 37 = .ok (.iaload, 1) := by decide +kernel
theorem dX12_restore_38 : decode cX12_restore 38 = .ok (.iastore, 1) := by decide +kernel
theorem dX12_restore_39 : decode cX12_restore 39 = .ok (.iinc 1 1, 3) := by decide +kernel
theorem dX12_restore_42 : decode cX12_restore 42 = .ok (.goto (-22), 3) := by decide +kernel
theorem dX12_restore_45 : decode cX12_restore 45 = .ok (.aload_n 0, 1) := by decide +kernel
theorem dX12_restore_46 : decode cX12_restore 46 = .ok (.iconst 0, 1) := by decide +kernel
theorem dX12_restore_47 : decode cX12_restore 47 = .ok (.putfield 48, 3) := by decide +kernel
theorem dX12_restore_50 : decode cX12_restore 50 = .ok (.aload_n 0, 1) := by decide +kernel
theorem dX12_restore_51 : decode cX12_restore 51 = .ok (.getfield 9, 3) := by decide +kernel
theorem dX12_restore_54 : decode cX12_restore 54 = .ok (.iconst 3, 1) := by decide +kernel
theorem dX12_restore_55 : decode cX12_restore 55 = .ok (.iaload, 1) := by decide +kernel
theorem dX12_restore_56 : decode cX12_restore 56 = .ok (.ireturn, 1) := by decide +kernel
end
section
/-! memory as a function: cell, place -> number; the world w: classes, addresses, shapes, how many cells -/
abbrev kMem : Type := Nat → Nat → Int32
abbrev kSh : Type := (Nat × Nat) ⊕ (Nat × List (Option Nat))
abbrev kG : Type := va_G × ClassId × ClassId × ClassId
abbrev KW : Type := kG × (Nat → Nat) × (Nat → kSh) × Nat
def kad (w : KW) (a : Nat) : Nat := w.2.1 a
def ksh (w : KW) (a : Nat) : kSh := w.2.2.1 a
def kn (w : KW) : Nat := w.2.2.2
def ktys (w : KW) : List (ClassId × FieldType) := [(w.1.2.1, .int), (w.1.2.2.1, .char), (w.1.2.2.2, .object "MouldFloor$Floor")]
def kfs (w : KW) (g : Nat → Int32) : Nat → List (Option Nat) → List Value
  | _, [] => []
  | k, none :: r => .int (g k) :: kfs w g (k + 1) r
  | k, some b :: r => .ref (kad w b) :: kfs w g (k + 1) r
def kcell (w : KW) (f : kMem) (a : Nat) : va_E := match ksh w a with
  | .inl (0, n) => .inl (w.1.2.1, n, .inl (f a))
  | .inl (1, n) => .inl (w.1.2.2.1, n, .inl (f a))
  | .inl (_, n) => .inl (w.1.2.2.2, n, .inr (.inr (.inr (.inr (fun i => some (kad w (25 * (i + 2))))))))
  | .inr (ci, fl) => .inr (ci, kfs w (f a) 0 fl)
def kw (w : KW) (f : kMem) : va_W := (List.range (kn w)).map (fun a => (kad w a, kcell w f a))
def kup (f : kMem) (a k : Nat) (v : Int32) : kMem := fun b => if b = a then upd (f b) k v else f b
theorem kup_ne (f : kMem) {a b : Nat} (k : Nat) (v : Int32) (h : b ≠ a) : kup f a k v b = f b := by simp [kup, h]
theorem kup_eq (f : kMem) (a k : Nat) (v : Int32) : kup f a k v a = upd (f a) k v := by simp [kup]
theorem kfs_len (w : KW) (g : Nat → Int32) : ∀ (fl : List (Option Nat)) (i : Nat), (kfs w g i fl).length = fl.length
  | [], _ => rfl
  | none :: r, i => by simp [kfs, kfs_len w g r]
  | some _ :: r, i => by simp [kfs, kfs_len w g r]
theorem kfs_get (w : KW) (g : Nat → Int32) : ∀ (fl : List (Option Nat)) (i k : Nat), fl[k]? = some none → (kfs w g i fl)[k]? = some (.int (g (i + k)))
  | [], _, _, h => by simp at h
  | none :: r, i, 0, h => by simp [kfs]
  | none :: r, i, k + 1, h => by
    have h2 := kfs_get w g r (i + 1) k (by simpa using h)
    simp only [kfs, List.getElem?_cons_succ]
    rw [h2, show i + 1 + k = i + (k + 1) by omega]
  | some b :: r, i, 0, h => by simp at h
  | some b :: r, i, k + 1, h => by
    have h2 := kfs_get w g r (i + 1) k (by simpa using h)
    simp only [kfs, List.getElem?_cons_succ]
    rw [h2, show i + 1 + k = i + (k + 1) by omega]
theorem kfs_getr (w : KW) (g : Nat → Int32) {b : Nat} : ∀ (fl : List (Option Nat)) (i k : Nat), fl[k]? = some (some b) → (kfs w g i fl)[k]? = some (.ref (kad w b))
  | [], _, _, h => by simp at h
  | none :: r, i, 0, h => by simp at h
  | none :: r, i, k + 1, h => by
    have h2 := kfs_getr w g r (i + 1) k (by simpa using h)
    simpa [kfs] using h2
  | some b :: r, i, 0, h => by simp at h; simp [kfs, h]
  | some b :: r, i, k + 1, h => by
    have h2 := kfs_getr w g r (i + 1) k (by simpa using h)
    simpa [kfs] using h2
theorem kfs_congr (w : KW) {g g' : Nat → Int32} : ∀ (fl : List (Option Nat)) (i : Nat), (∀ j, i ≤ j → g j = g' j) → kfs w g i fl = kfs w g' i fl
  | [], _, _ => rfl
  | none :: r, i, h => by simp only [kfs]; rw [h i (Nat.le_refl i), kfs_congr w r (i + 1) (fun j hj => h j (by omega))]
  | some b :: r, i, h => by simp only [kfs]; rw [kfs_congr w r (i + 1) (fun j hj => h j (by omega))]
theorem kfs_set (w : KW) (g : Nat → Int32) (v : Int32) : ∀ (fl : List (Option Nat)) (i k : Nat), fl[k]? = some none → (kfs w g i fl).set k (.int v) = kfs w (upd g (i + k) v) i fl
  | [], _, _, h => by simp at h
  | none :: r, i, 0, h => by
    simp only [kfs, List.set_cons_zero, Nat.add_zero]
    rw [kfs_congr w r (i + 1) (g := g) (g' := upd g i v) (fun j hj => by unfold upd; rw [if_neg (by omega)])]
    simp [upd]
  | none :: r, i, k + 1, h => by
    have h2 := kfs_set w g v r (i + 1) k (by simpa using h)
    simp only [kfs, List.set_cons_succ]
    rw [h2, show i + 1 + k = i + (k + 1) by omega]
    congr 1
    unfold upd
    rw [if_neg (by omega)]
  | some b :: r, i, 0, h => by simp at h
  | some b :: r, i, k + 1, h => by
    have h2 := kfs_set w g v r (i + 1) k (by simpa using h)
    simp only [kfs, List.set_cons_succ]
    rw [h2, show i + 1 + k = i + (k + 1) by omega]
theorem kcell_congr (w : KW) {f f' : kMem} {a : Nat} (h : f a = f' a) : kcell w f a = kcell w f' a := by unfold kcell; rw [h]
theorem kw_get {w : KW} {f : kMem} {a : Nat} (h : a < kn w) : (kw w f)[a]? = some (kad w a, kcell w f a) := by simp [kw, h]
theorem kw_set {w : KW} {f f' : kMem} {a : Nat} {e : va_E} (he : kcell w f' a = e) (ho : ∀ b, b ≠ a → f' b = f b) : (kw w f).set a (kad w a, e) = kw w f' := by
  apply List.ext_getElem?
  intro i
  rw [List.getElem?_set]
  by_cases hi : a = i
  · subst hi
    by_cases hl : a < kn w
    · simp [kw, hl, he]
    · simp [kw, hl]
  · rw [if_neg hi]
    by_cases hl : i < kn w
    · simp only [kw_get hl, kcell_congr w (ho i (fun q => hi q.symm))]
    · simp [kw, hl]
theorem kw_D {w : KW} {f f' : kMem} {A : Nat → Prop} (h : va_D A (kw w f)) : va_D A (kw w f') := by
  have key : ∀ (i : Nat) (p : Nat × va_E), (kw w f')[i]? = some p → (kw w f)[i]? = some (p.1, kcell w f i) := by
    intro i p hp
    by_cases hl : i < kn w
    · rw [kw_get hl] at hp ⊢
      cases hp
      rfl
    · simp [kw, hl] at hp
  exact ⟨fun i j p q hp hq e => h.1 i j _ _ (key i p hp) (key j q hq) e, fun k q hk => h.2 k (q.1, kcell w f k) (key k q hk)⟩
def kA (w : KW) (sz : Nat) : Nat → Prop := fun q => (∃ a, a < kn w ∧ q = kad w a) ∨ sz ≤ q
theorem kA_mono {w : KW} {a b q : Nat} (h : a ≤ b) (hq : kA w b q) : kA w a q := hq.elim Or.inl (fun z => Or.inr (Nat.le_trans h z))
theorem kw_DA {w : KW} {f f' : kMem} {A : Nat → Prop} {sz : Nat} (h : va_D A (kw w f)) : va_D (kA w sz) (kw w f') := by
  have h' := kw_D (f' := f') h
  refine ⟨h'.1, fun k q hk => ?_⟩
  by_cases hl : k < kn w
  · rw [kw_get hl] at hk
    cases hk
    exact Or.inl ⟨k, hl, rfl⟩
  · simp [kw, hl] at hk
def kGT : List Cond := lw_tbl.filter goodWord
theorem kgt {w : Cond} (h : w ∈ lw_tbl) (hg : goodWord w = true) : w ∈ kGT := List.mem_filter.mpr ⟨h, hg⟩
theorem kgt_good {ws : List Cond} (h : ∀ w ∈ ws, w ∈ kGT) : GoodIn kGT ws := fun w hw => ⟨h w hw, good_of_word (List.mem_filter.mp (h w hw)).2⟩
def kRm (d : Nat) : Room := { frames := d, cells := 0, slots := 0, locals := 64 * d }
def kNW : List Cond := [.methodLinkNest "MouldFloor" 11 ⟨"MouldFloor$Floor", "<init>", "()V"⟩ "MouldFloor", .methodLinkNest "MouldFloor$Catalogue" 33 ⟨"MouldFloor", "copyRow", "([I[I)V"⟩ "MouldFloor", .methodLinkNest "MouldFloor$Floor" 20 ⟨"MouldFloor$Dryers", "<init>", "()V"⟩ "MouldFloor", .methodLinkNest "MouldFloor$Floor" 27 ⟨"MouldFloor$Stock", "<init>", "()V"⟩ "MouldFloor", .methodLinkNest "MouldFloor$Floor" 34 ⟨"MouldFloor$Orders", "<init>", "()V"⟩ "MouldFloor", .methodLinkNest "MouldFloor$History" 17 ⟨"MouldFloor$Floor", "<init>", "()V"⟩ "MouldFloor", .methodLinkNest "MouldFloor" 28 ⟨"MouldFloor$Reasons", "<init>", "()V"⟩ "MouldFloor", .methodLinkNest "MouldFloor" 35 ⟨"MouldFloor$Text", "<init>", "()V"⟩ "MouldFloor", .methodLinkNest "MouldFloor" 42 ⟨"MouldFloor$FamilyText", "<init>", "()V"⟩ "MouldFloor", .methodLinkNest "MouldFloor" 49 ⟨"MouldFloor$ProgramText", "<init>", "()V"⟩ "MouldFloor", .methodLinkNest "MouldFloor" 56 ⟨"MouldFloor$ColourOrders", "<init>", "()V"⟩ "MouldFloor", .methodLinkNest "MouldFloor$Dryers" 21 ⟨"MouldFloor", "copyRow", "([I[I)V"⟩ "MouldFloor", .methodLinkNest "MouldFloor$Stock" 27 ⟨"MouldFloor", "copyRow", "([I[I)V"⟩ "MouldFloor", .methodLinkNest "MouldFloor$Orders" 34 ⟨"MouldFloor", "copyRow", "([I[I)V"⟩ "MouldFloor", .methodLinkNest "MouldFloor$Catalogue" 47 ⟨"MouldFloor", "isWithin", "(III)Z"⟩ "MouldFloor", .methodLinkNest "MouldFloor$ProgramText" 55 ⟨"MouldFloor", "isWithin", "(III)Z"⟩ "MouldFloor", .methodLinkNest "MouldFloor$Floor" 95 ⟨"MouldFloor", "isWithin", "(III)Z"⟩ "MouldFloor", .methodLinkNest "MouldFloor$Dryers" 26 ⟨"MouldFloor", "isWithin", "(III)Z"⟩ "MouldFloor", .methodLinkNest "MouldFloor$Orders" 38 ⟨"MouldFloor", "isWithin", "(III)Z"⟩ "MouldFloor", .fieldLinkNest "MouldFloor$Catalogue" 30 "MouldFloor" "FIRST_SETTINGS" "[I" "MouldFloor", .fieldLinkNest "MouldFloor$Catalogue" 84 "MouldFloor" "LEAST_SETTINGS" "[I" "MouldFloor", .fieldLinkNest "MouldFloor$Catalogue" 87 "MouldFloor" "MOST_SETTINGS" "[I" "MouldFloor"]
theorem kNW_moved {s U : State} (hW : s.WarmedH U.vm) (h : ∀ z ∈ kNW, va_Nw z s) : ∀ z ∈ kNW, va_Nw z U := by
  intro z hz
  have h1 := h z hz
  simp only [kNW, List.mem_cons, List.not_mem_nil, or_false] at hz
  rcases hz with rfl | rfl | rfl | rfl | rfl | rfl | rfl | rfl | rfl | rfl | rfl | rfl | rfl | rfl | rfl | rfl | rfl | rfl | rfl | rfl | rfl | rfl
  all_goals first | exact va_Nw.warmM hW h1 | exact va_Nw.warmF hW h1
theorem kNW_same {s U : State} (hW : s.vm = U.vm) (h : ∀ z ∈ kNW, va_Nw z s) : ∀ z ∈ kNW, va_Nw z U := fun z hz => va_Nw.same (List.all_eq_true.mp (show kNW.all (fun z => z.onTables) = true by decide +kernel) z hz) hW (h z hz)
/-- the static arrays of the class, at the addresses 1000 .. of w -/
def kst (n : Nat) (j : Nat) : Int32 := match n, j with
  | 0, 0 => 480 | 0, 1 => 60 | 0, 2 => 2 | 0, 3 => 10
  | 1, 0 => 60 | 1, _ => 0
  | 2, 0 => 9999 | 2, 1 => 999 | 2, 2 => 5 | 2, 3 => 99
  | _, _ => 0
def kS1 (w : KW) (n : String) (k : Nat) (sz : Nat) (U : State) (H : Heap) : Prop := va_Z "MouldFloor" n "[I" (.ref (kad w (1000 + k))) (kA w sz) U H ∧ va_T .int (kad w (1000 + k)) 4 (fun j => .int (kst k j)) (kA w sz) U H
def kS (w : KW) (sz : Nat) (U : State) (H : Heap) : Prop := kS1 w "FIRST_SETTINGS" 0 sz U H ∧ kS1 w "LEAST_SETTINGS" 1 sz U H ∧ kS1 w "MOST_SETTINGS" 2 sz U H
theorem kS1_to {w : KW} {n : String} {k sz sz' : Nat} {s U : State} {H H1 : Heap} (hsz : sz ≤ sz') (hvm : s.vm.Alike U.vm) (hq : ∀ a : Nat, a < H.size → ¬ kA w sz a → H1[a]? = H[a]?) (h : kS1 w n k sz s H) : kS1 w n k sz' U H1 :=
  ⟨((va_Z.moved hvm h.1).kept hq).narrow (fun q hq => kA_mono hsz hq), ((va_T.moved hvm h.2).kept hq).narrow (fun q hq => kA_mono hsz hq)⟩
theorem kS_to {w : KW} {sz sz' : Nat} {s U : State} {H H1 : Heap} (hsz : sz ≤ sz') (hvm : s.vm.Alike U.vm) (hq : ∀ a : Nat, a < H.size → ¬ kA w sz a → H1[a]? = H[a]?) (h : kS w sz s H) : kS w sz' U H1 :=
  ⟨kS1_to hsz hvm hq h.1, kS1_to hsz hvm hq h.2.1, kS1_to hsz hvm hq h.2.2⟩
def kB (w : KW) (f : kMem) (U : State) : Prop := va_P w.1.1 vwCl (kw w f) U.heap ∧ va_K w.1.1 vwCl (ktys w) U ∧ va_D (fun _ => True) (kw w f) ∧ (∀ z ∈ kNW, va_Nw z U) ∧ kS w U.heap.size U U.heap
def krv (ret : Option FieldType) (r : Int32) : Option Value := match ret with
  | none => none
  | some _ => some (.int r)
def kQ (w : KW) (ret : Option FieldType) (r : Int32) (fo : kMem) (sz : Nat) : Array Value → State → Outcome → State → Prop := fun _ st oc t => oc = .returned (krv ret r) ∧ va_P w.1.1 vwCl (kw w fo) t.heap ∧ va_F (kA w sz) st t
def kMet (l : Launch) (w : KW) (y : MethodName) (b : ByteArray) (nL : Nat) (ret : Option FieldType) (d : Nat) (av : List Value) (f : kMem) (r : Int32) (fo : kMem) : Prop :=
  ∀ sz, Met l y (.code y b nL ret :: kGT) (kRm d) (va_Pc av (fun U => U.heap.size = sz ∧ kB w f U)) (kQ w ret r fo sz) 0 0 (kA w sz)
def KC (p : Program) (l : Launch) (e : Env) (R : Room) (s : State) (m : MethodId) (args : Array Value) (below : List Frame) (meth : Method) (c : Code) (w : KW) (own : String) (cc : ByteArray) (nL : Nat) (ret : Option FieldType) (d : Nat) : Prop :=
  CallFix p m c cc nL s args kGT own ∧ va_K w.1.1 vwCl (ktys w) s ∧ (∀ z ∈ kNW, va_Nw z s) ∧ kS w s.heap.size s s.heap ∧ va_D (kA w s.heap.size) (kw w (fun _ _ => 0)) ∧ meth.sig.returnType = ret ∧ meth.locks = false ∧ R = kRm d
def K (p : Program) (l : Launch) (e : Env) (R : Room) (s : State) (m : MethodId) (args : Array Value) (below : List Frame) (meth : Method) (c : Code) (w : KW) (nL : Nat) (ret : Option FieldType) (fo : kMem) (r : Int32) (f : kMem) (pc : Nat) (lv : List (Nat × Value)) (st : List Value) (X : Option (Int32 × kMem)) : Prop :=
  X = some (r, fo) → ∀ (H : Heap) (locs : List Loc) (ls : Array Slot), va_P w.1.1 vwCl (kw w f) H → va_S (kA w s.heap.size) s.heap H locs → lv_has ls nL lv →
    W p l e R s m args below meth c H locs 0 0 (MQ below (kQ w ret r fo s.heap.size) args s 0 0 (kA w s.heap.size)) (F0 m pc ls st)
theorem kMet_of {l : Launch} {w : KW} {y : MethodName} {b : ByteArray} {nL : Nat} {ret : Option FieldType} {d : Nat} {av : List Value} {lv : List (Nat × Value)} {f : kMem} {r : Int32} {fo : kMem} {X : Option (Int32 × kMem)} {own : String}
    (hy : plainName y.cls = true) (how : y.cls = own) (hn : (lg_sl av).length ≤ nL) (hlv : lv_args 0 av = lv) (hX : X = some (r, fo))
    (body : ∀ (p : Program) (e : Env) (R : Room) (s : State) (m : MethodId) (args : Array Value) (below : List Frame) (meth : Method) (c : Code), KC p l e R s m args below meth c w own b nL ret d → K p l e R s m args below meth c w nL ret fo r f 0 lv [] X) : kMet l w y b nL ret d av f r fo := by
  intro sz
  refine Met.ofW (cc := b) (maxL := nL) (ret := ret) hy rfl ?_
  intro p e s m args below meth c s₁ B hml hv
  obtain ⟨rfl, hsz, hP, hK, hD0, hN, hST⟩ := hv
  have hts := atoms_spec (ws := .code y b nL ret :: kGT) B.pre
  have hown : s.vm.findClass y.cls = some m.cls := findClass_of_methodNamed B.named
  subst hsz
  subst how
  have hl := lv_entry av (n := nL) hn
  rw [lg_entry_eq]
  rw [hlv] at hl
  exact body p e _ s m _ below meth c ⟨⟨B.exec, B.bytes, hml, hown, fun w hw => hts w (List.mem_cons_of_mem _ hw)⟩, hK, hN, hST, kw_DA hD0, B.returns, B.notSynchronized, rfl⟩ hX s.heap [] _ hP va_S.rf hl
section KROWS
variable {p : Program} {l : Launch} {e : Env} {R : Room} {s : State} {m : MethodId} {args : Array Value} {below : List Frame} {meth : Method} {c : Code} {w : KW} {own : String} {cc : ByteArray} {nL : Nat} {ret : Option FieldType} {d : Nat} {fo : kMem} {r : Int32} {f : kMem} {pc : Nat} {lv : List (Nat × Value)} {st : List Value} {X : Option (Int32 × kMem)}
theorem K_iconst (C : KC p l e R s m args below meth c w own cc nL ret d) {n : Int} {v : Int32} (hv : Int32.ofInt n = v) (hdg : decode cc pc = .ok (.iconst n, 1)) (kk : K p l e R s m args below meth c w nL ret fo r f (pc + 1) lv (.int v :: st) (X)) : K p l e R s m args below meth c w nL ret fo r f pc lv (st) (X) := fun hX H locs ls hP hS hl => lv_iconst C.1.1 C.1.2.1 hdg hv (kk hX H locs ls hP hS hl)
theorem K_bipush (C : KC p l e R s m args below meth c w own cc nL ret d) {n : Int} {v : Int32} (hv : (Int8.ofInt n).toInt32 = v) (hdg : decode cc pc = .ok (.bipush n, 2)) (kk : K p l e R s m args below meth c w nL ret fo r f (pc + 2) lv (.int v :: st) (X)) : K p l e R s m args below meth c w nL ret fo r f pc lv (st) (X) := fun hX H locs ls hP hS hl => lv_bipush C.1.1 C.1.2.1 hdg hv (kk hX H locs ls hP hS hl)
theorem K_sipush (C : KC p l e R s m args below meth c w own cc nL ret d) {n : Int} {v : Int32} (hv : (Int16.ofInt n).toInt32 = v) (hdg : decode cc pc = .ok (.sipush n, 3)) (kk : K p l e R s m args below meth c w nL ret fo r f (pc + 3) lv (.int v :: st) (X)) : K p l e R s m args below meth c w nL ret fo r f pc lv (st) (X) := fun hX H locs ls hP hS hl => lv_sipush C.1.1 C.1.2.1 hdg hv (kk hX H locs ls hP hS hl)
theorem K_iload_n (C : KC p l e R s m args below meth c w own cc nL ret d) {k : Fin 4} {i : Nat} {x : Int32} (q : Nat) (hi : (k : Nat) = i) (hq : lv[q]? = some (i, .int x)) (hdg : decode cc pc = .ok (.iload_n k, 1)) (kk : K p l e R s m args below meth c w nL ret fo r f (pc + 1) lv (.int x :: st) (X)) : K p l e R s m args below meth c w nL ret fo r f pc lv (st) (X) := fun hX H locs ls hP hS hl => lv_iload_n C.1.1 C.1.2.1 hdg hi (lv_at hl q hq) (kk hX H locs ls hP hS hl)
theorem K_iload (C : KC p l e R s m args below meth c w own cc nL ret d) {i : Nat} {x : Int32} (q : Nat) (hq : lv[q]? = some (i, .int x)) (hdg : decode cc pc = .ok (.iload i, 2)) (kk : K p l e R s m args below meth c w nL ret fo r f (pc + 2) lv (.int x :: st) (X)) : K p l e R s m args below meth c w nL ret fo r f pc lv (st) (X) := fun hX H locs ls hP hS hl => lv_iload C.1.1 C.1.2.1 hdg (lv_at hl q hq) (kk hX H locs ls hP hS hl)
theorem K_aload_n (C : KC p l e R s m args below meth c w own cc nL ret d) {k : Fin 4} {i : Nat} {x : Nat} (q : Nat) (hi : (k : Nat) = i) (hq : lv[q]? = some (i, .ref x)) (hdg : decode cc pc = .ok (.aload_n k, 1)) (kk : K p l e R s m args below meth c w nL ret fo r f (pc + 1) lv (.ref x :: st) (X)) : K p l e R s m args below meth c w nL ret fo r f pc lv (st) (X) := fun hX H locs ls hP hS hl => lv_aload_n C.1.1 C.1.2.1 hdg hi (lv_at hl q hq) (kk hX H locs ls hP hS hl)
theorem K_aload (C : KC p l e R s m args below meth c w own cc nL ret d) {i : Nat} {x : Nat} (q : Nat) (hq : lv[q]? = some (i, .ref x)) (hdg : decode cc pc = .ok (.aload i, 2)) (kk : K p l e R s m args below meth c w nL ret fo r f (pc + 2) lv (.ref x :: st) (X)) : K p l e R s m args below meth c w nL ret fo r f pc lv (st) (X) := fun hX H locs ls hP hS hl => lv_aload C.1.1 C.1.2.1 hdg (lv_at hl q hq) (kk hX H locs ls hP hS hl)
theorem K_istore_n (C : KC p l e R s m args below meth c w own cc nL ret d) {k : Fin 4} {i : Nat} {x : Int32} {lv1 : List (Nat × Value)} (hi : (k : Nat) = i) (hn : i < nL) (hl1 : (i, Value.int x) :: lv.filter (fun q => !(q.1 == i) && !(q.1 + 1 == i && q.2.category == 2)) = lv1) (hdg : decode cc pc = .ok (.istore_n k, 1)) (kk : K p l e R s m args below meth c w nL ret fo r f (pc + 1) lv1 (st) (X)) : K p l e R s m args below meth c w nL ret fo r f pc lv (.int x :: st) (X) := fun hX H locs ls hP hS hl => lv_istore_n C.1.1 C.1.2.1 hdg hi hl hn hl1 (fun ls1 hl2 => kk hX H locs ls1 hP hS hl2)
theorem K_istore (C : KC p l e R s m args below meth c w own cc nL ret d) {i : Nat} {x : Int32} {lv1 : List (Nat × Value)} (hn : i < nL) (hl1 : (i, Value.int x) :: lv.filter (fun q => !(q.1 == i) && !(q.1 + 1 == i && q.2.category == 2)) = lv1) (hdg : decode cc pc = .ok (.istore i, 2)) (kk : K p l e R s m args below meth c w nL ret fo r f (pc + 2) lv1 (st) (X)) : K p l e R s m args below meth c w nL ret fo r f pc lv (.int x :: st) (X) := fun hX H locs ls hP hS hl => lv_istore C.1.1 C.1.2.1 hdg hl hn hl1 (fun ls1 hl2 => kk hX H locs ls1 hP hS hl2)
theorem K_astore_n (C : KC p l e R s m args below meth c w own cc nL ret d) {k : Fin 4} {i : Nat} {x : Nat} {lv1 : List (Nat × Value)} (hi : (k : Nat) = i) (hn : i < nL) (hl1 : (i, Value.ref x) :: lv.filter (fun q => !(q.1 == i) && !(q.1 + 1 == i && q.2.category == 2)) = lv1) (hdg : decode cc pc = .ok (.astore_n k, 1)) (kk : K p l e R s m args below meth c w nL ret fo r f (pc + 1) lv1 (st) (X)) : K p l e R s m args below meth c w nL ret fo r f pc lv (.ref x :: st) (X) := fun hX H locs ls hP hS hl => lv_astore_n C.1.1 C.1.2.1 hdg hi hl hn hl1 (fun ls1 hl2 => kk hX H locs ls1 hP hS hl2)
theorem K_astore (C : KC p l e R s m args below meth c w own cc nL ret d) {i : Nat} {x : Nat} {lv1 : List (Nat × Value)} (hn : i < nL) (hl1 : (i, Value.ref x) :: lv.filter (fun q => !(q.1 == i) && !(q.1 + 1 == i && q.2.category == 2)) = lv1) (hdg : decode cc pc = .ok (.astore i, 2)) (kk : K p l e R s m args below meth c w nL ret fo r f (pc + 2) lv1 (st) (X)) : K p l e R s m args below meth c w nL ret fo r f pc lv (.ref x :: st) (X) := fun hX H locs ls hP hS hl => lv_astore C.1.1 C.1.2.1 hdg hl hn hl1 (fun ls1 hl2 => kk hX H locs ls1 hP hS hl2)
/-- the answers' words: a name for a number, for a memory; a branch; a check; a call -/
def klet (x : Int32) (Y : Int32 → Option (Int32 × kMem)) : Option (Int32 × kMem) := Y x
def kmem (g : kMem) (Y : kMem → Option (Int32 × kMem)) : Option (Int32 × kMem) := Y g
def klt (x y : Int32) (X1 X2 : Option (Int32 × kMem)) : Option (Int32 × kMem) := if x < y then X1 else X2
def kle (x y : Int32) (X1 X2 : Option (Int32 × kMem)) : Option (Int32 × kMem) := if x ≤ y then X1 else X2
def keq (x y : Int32) (X1 X2 : Option (Int32 × kMem)) : Option (Int32 × kMem) := if x = y then X1 else X2
def kin (i : Int32) (n : Nat) : Bool := decide (0 ≤ i.toInt) && decide (i.toInt < n)
def kchk (b : Bool) (X : Option (Int32 × kMem)) : Option (Int32 × kMem) := cond b X none
def kbind (Z : Option (Int32 × kMem)) (Y : Int32 → kMem → Option (Int32 × kMem)) : Option (Int32 × kMem) := match Z with
  | none => none
  | some q => Y q.1 q.2
theorem kin_in {i : Int32} {n : Nat} (h : kin i n = true) : vp_in i n := by
  simp only [kin, Bool.and_eq_true, decide_eq_true_eq] at h
  exact vp_in_iff.mpr h
theorem kchk_some {b : Bool} {X : Option (Int32 × kMem)} {z : Int32 × kMem} (h : kchk b X = some z) : b = true ∧ X = some z := by
  cases b
  · cases h
  · exact ⟨rfl, h⟩
theorem kbind_some {Z : Option (Int32 × kMem)} {Y : Int32 → kMem → Option (Int32 × kMem)} {z : Int32 × kMem} (h : kbind Z Y = some z) : ∃ r1 f1, Z = some (r1, f1) ∧ Y r1 f1 = some z := by
  cases Z with
  | none => cases h
  | some q => exact ⟨q.1, q.2, rfl, h⟩
theorem K_sub {lv1 : List (Nat × Value)} (ks : List Nat) (hk : lv_pick lv ks = lv1) (kk : K p l e R s m args below meth c w nL ret fo r f pc lv1 st X) : K p l e R s m args below meth c w nL ret fo r f pc lv st X := fun hX H locs ls hP hS hl => kk hX H locs ls hP hS (lv_sub hl ks hk)
theorem K_let {x : Int32} {Y : Int32 → Option (Int32 × kMem)} {st1 : List Value} (hst : st = .int x :: st1) (kk : ∀ x1 : Int32, K p l e R s m args below meth c w nL ret fo r f pc lv (.int x1 :: st1) (Y x1)) : K p l e R s m args below meth c w nL ret fo r f pc lv st (klet x Y) := by rw [hst]; exact kk x
theorem K_mem {g : kMem} {Y : kMem → Option (Int32 × kMem)} (kk : ∀ g : kMem, K p l e R s m args below meth c w nL ret fo r g pc lv st (Y g)) : K p l e R s m args below meth c w nL ret fo r g pc lv st (kmem g Y) := kk g
theorem K_chk {b : Bool} (kk : b = true → K p l e R s m args below meth c w nL ret fo r f pc lv st X) : K p l e R s m args below meth c w nL ret fo r f pc lv st (kchk b X) := fun hX => kk (kchk_some hX).1 (kchk_some hX).2
theorem K_some {v : Int32} {g : kMem} (kk : r = v → fo = g → K p l e R s m args below meth c w nL ret fo r f pc lv st (some (v, g))) : K p l e R s m args below meth c w nL ret fo r f pc lv st (some (v, g)) := fun hX => kk (by injection hX with h; injection h with h1 h2; exact h1.symm) (by injection hX with h; injection h with h1 h2; exact h2.symm) hX
theorem K_case {x y : Int32} {X1 X2 : Option (Int32 × kMem)} (k1 : x = y → K p l e R s m args below meth c w nL ret fo r f pc lv st X1) (k2 : ¬ x = y → K p l e R s m args below meth c w nL ret fo r f pc lv st X2) : K p l e R s m args below meth c w nL ret fo r f pc lv st (keq x y X1 X2) := by
  intro hX
  unfold keq at hX
  by_cases h : x = y
  · rw [if_pos h] at hX; exact k1 h hX
  · rw [if_neg h] at hX; exact k2 h hX
theorem K_iinc (C : KC p l e R s m args below meth c w own cc nL ret d) {i k : Nat} {n : Int} {x : Int32} {Y : Int32 → Option (Int32 × kMem)} {lv1 : Int32 → List (Nat × Value)} (hk : lv[k]? = some (i, .int x)) (hn : i < nL) (hl1 : ∀ v : Int32, (i, Value.int v) :: lv.filter (fun q => !(q.1 == i) && !(q.1 + 1 == i && q.2.category == 2)) = lv1 v) (hdg : decode cc pc = .ok (.iinc i n, 3)) (kk : ∀ v : Int32, K p l e R s m args below meth c w nL ret fo r f (pc + 3) (lv1 v) (st) (Y v)) : K p l e R s m args below meth c w nL ret fo r f pc lv (st) (klet (x + Int32.ofInt n) Y) := fun hX H locs ls hP hS hl => lv_iinc C.1.1 C.1.2.1 hdg hl hk rfl hn (hl1 _) (fun ls1 hl2 => kk _ hX H locs ls1 hP hS hl2)
theorem K_iadd (C : KC p l e R s m args below meth c w own cc nL ret d) {x y : Int32} (hdg : decode cc pc = .ok (.iadd, 1)) (kk : K p l e R s m args below meth c w nL ret fo r f (pc + 1) lv (.int (x + y) :: st) (X)) : K p l e R s m args below meth c w nL ret fo r f pc lv (.int y :: .int x :: st) (X) := fun hX H locs ls hP hS hl => lv_iadd C.1.1 C.1.2.1 hdg  (kk hX H locs ls hP hS hl)
theorem K_isub (C : KC p l e R s m args below meth c w own cc nL ret d) {x y : Int32} (hdg : decode cc pc = .ok (.isub, 1)) (kk : K p l e R s m args below meth c w nL ret fo r f (pc + 1) lv (.int (x - y) :: st) (X)) : K p l e R s m args below meth c w nL ret fo r f pc lv (.int y :: .int x :: st) (X) := fun hX H locs ls hP hS hl => lv_isub C.1.1 C.1.2.1 hdg  (kk hX H locs ls hP hS hl)
theorem K_imul (C : KC p l e R s m args below meth c w own cc nL ret d) {x y : Int32} (hdg : decode cc pc = .ok (.imul, 1)) (kk : K p l e R s m args below meth c w nL ret fo r f (pc + 1) lv (.int (x * y) :: st) (X)) : K p l e R s m args below meth c w nL ret fo r f pc lv (.int y :: .int x :: st) (X) := fun hX H locs ls hP hS hl => lv_imul C.1.1 C.1.2.1 hdg  (kk hX H locs ls hP hS hl)
theorem K_iand (C : KC p l e R s m args below meth c w own cc nL ret d) {x y : Int32} (hdg : decode cc pc = .ok (.iand, 1)) (kk : K p l e R s m args below meth c w nL ret fo r f (pc + 1) lv (.int (x &&& y) :: st) (X)) : K p l e R s m args below meth c w nL ret fo r f pc lv (.int y :: .int x :: st) (X) := fun hX H locs ls hP hS hl => lv_iand C.1.1 C.1.2.1 hdg  (kk hX H locs ls hP hS hl)
theorem K_ior (C : KC p l e R s m args below meth c w own cc nL ret d) {x y : Int32} (hdg : decode cc pc = .ok (.ior, 1)) (kk : K p l e R s m args below meth c w nL ret fo r f (pc + 1) lv (.int (x ||| y) :: st) (X)) : K p l e R s m args below meth c w nL ret fo r f pc lv (.int y :: .int x :: st) (X) := fun hX H locs ls hP hS hl => lv_ior C.1.1 C.1.2.1 hdg  (kk hX H locs ls hP hS hl)
theorem K_ixor (C : KC p l e R s m args below meth c w own cc nL ret d) {x y : Int32} (hdg : decode cc pc = .ok (.ixor, 1)) (kk : K p l e R s m args below meth c w nL ret fo r f (pc + 1) lv (.int (x ^^^ y) :: st) (X)) : K p l e R s m args below meth c w nL ret fo r f pc lv (.int y :: .int x :: st) (X) := fun hX H locs ls hP hS hl => lv_ixor C.1.1 C.1.2.1 hdg  (kk hX H locs ls hP hS hl)
theorem K_icmp_eq (C : KC p l e R s m args below meth c w own cc nL ret d) {x y : Int32} {off : Int} {tgt : Nat} {Xt Xf : Option (Int32 × kMem)} (ht : (pc : Int) + off = (tgt : Int)) (hdg : decode cc pc = .ok (.if_icmp .eq off, 3)) (kt : K p l e R s m args below meth c w nL ret fo r f (tgt) lv (st) (Xt)) (kf : K p l e R s m args below meth c w nL ret fo r f (pc + 3) lv (st) (Xf)) : K p l e R s m args below meth c w nL ret fo r f pc lv (.int y :: .int x :: st) (keq x y Xt Xf) := fun hX H locs ls hP hS hl => lv_icmp_eq C.1.1 C.1.2.1 hdg ht (fun h => kt (by unfold keq at hX; rwa [if_pos h] at hX) H locs ls hP hS hl) (fun h => kf (by unfold keq at hX; rwa [if_neg h] at hX) H locs ls hP hS hl)
theorem K_if_eq (C : KC p l e R s m args below meth c w own cc nL ret d) {x : Int32} {off : Int} {tgt : Nat} {Xt Xf : Option (Int32 × kMem)} (ht : (pc : Int) + off = (tgt : Int)) (hdg : decode cc pc = .ok (.ifCond .eq off, 3)) (kt : K p l e R s m args below meth c w nL ret fo r f (tgt) lv (st) (Xt)) (kf : K p l e R s m args below meth c w nL ret fo r f (pc + 3) lv (st) (Xf)) : K p l e R s m args below meth c w nL ret fo r f pc lv (.int x :: st) (keq x 0 Xt Xf) := fun hX H locs ls hP hS hl => lv_if_eq C.1.1 C.1.2.1 hdg ht (fun h => kt (by unfold keq at hX; rwa [if_pos h] at hX) H locs ls hP hS hl) (fun h => kf (by unfold keq at hX; rwa [if_neg h] at hX) H locs ls hP hS hl)
theorem K_icmp_ne (C : KC p l e R s m args below meth c w own cc nL ret d) {x y : Int32} {off : Int} {tgt : Nat} {Xt Xf : Option (Int32 × kMem)} (ht : (pc : Int) + off = (tgt : Int)) (hdg : decode cc pc = .ok (.if_icmp .ne off, 3)) (kt : K p l e R s m args below meth c w nL ret fo r f (tgt) lv (st) (Xt)) (kf : K p l e R s m args below meth c w nL ret fo r f (pc + 3) lv (st) (Xf)) : K p l e R s m args below meth c w nL ret fo r f pc lv (.int y :: .int x :: st) (keq x y Xf Xt) := fun hX H locs ls hP hS hl => lv_icmp_ne C.1.1 C.1.2.1 hdg ht (fun h => kt (by unfold keq at hX; rwa [if_neg h] at hX) H locs ls hP hS hl) (fun h => kf (by unfold keq at hX; rwa [if_pos h] at hX) H locs ls hP hS hl)
theorem K_if_ne (C : KC p l e R s m args below meth c w own cc nL ret d) {x : Int32} {off : Int} {tgt : Nat} {Xt Xf : Option (Int32 × kMem)} (ht : (pc : Int) + off = (tgt : Int)) (hdg : decode cc pc = .ok (.ifCond .ne off, 3)) (kt : K p l e R s m args below meth c w nL ret fo r f (tgt) lv (st) (Xt)) (kf : K p l e R s m args below meth c w nL ret fo r f (pc + 3) lv (st) (Xf)) : K p l e R s m args below meth c w nL ret fo r f pc lv (.int x :: st) (keq x 0 Xf Xt) := fun hX H locs ls hP hS hl => lv_if_ne C.1.1 C.1.2.1 hdg ht (fun h => kt (by unfold keq at hX; rwa [if_neg h] at hX) H locs ls hP hS hl) (fun h => kf (by unfold keq at hX; rwa [if_pos h] at hX) H locs ls hP hS hl)
theorem K_icmp_lt (C : KC p l e R s m args below meth c w own cc nL ret d) {x y : Int32} {off : Int} {tgt : Nat} {Xt Xf : Option (Int32 × kMem)} (ht : (pc : Int) + off = (tgt : Int)) (hdg : decode cc pc = .ok (.if_icmp .lt off, 3)) (kt : K p l e R s m args below meth c w nL ret fo r f (tgt) lv (st) (Xt)) (kf : K p l e R s m args below meth c w nL ret fo r f (pc + 3) lv (st) (Xf)) : K p l e R s m args below meth c w nL ret fo r f pc lv (.int y :: .int x :: st) (klt x y Xt Xf) := fun hX H locs ls hP hS hl => lv_icmp_lt C.1.1 C.1.2.1 hdg ht (fun h => kt (by unfold klt at hX; rwa [if_pos h] at hX) H locs ls hP hS hl) (fun h => kf (by unfold klt at hX; rwa [if_neg h] at hX) H locs ls hP hS hl)
theorem K_if_lt (C : KC p l e R s m args below meth c w own cc nL ret d) {x : Int32} {off : Int} {tgt : Nat} {Xt Xf : Option (Int32 × kMem)} (ht : (pc : Int) + off = (tgt : Int)) (hdg : decode cc pc = .ok (.ifCond .lt off, 3)) (kt : K p l e R s m args below meth c w nL ret fo r f (tgt) lv (st) (Xt)) (kf : K p l e R s m args below meth c w nL ret fo r f (pc + 3) lv (st) (Xf)) : K p l e R s m args below meth c w nL ret fo r f pc lv (.int x :: st) (klt x 0 Xt Xf) := fun hX H locs ls hP hS hl => lv_if_lt C.1.1 C.1.2.1 hdg ht (fun h => kt (by unfold klt at hX; rwa [if_pos h] at hX) H locs ls hP hS hl) (fun h => kf (by unfold klt at hX; rwa [if_neg h] at hX) H locs ls hP hS hl)
theorem K_icmp_ge (C : KC p l e R s m args below meth c w own cc nL ret d) {x y : Int32} {off : Int} {tgt : Nat} {Xt Xf : Option (Int32 × kMem)} (ht : (pc : Int) + off = (tgt : Int)) (hdg : decode cc pc = .ok (.if_icmp .ge off, 3)) (kt : K p l e R s m args below meth c w nL ret fo r f (tgt) lv (st) (Xt)) (kf : K p l e R s m args below meth c w nL ret fo r f (pc + 3) lv (st) (Xf)) : K p l e R s m args below meth c w nL ret fo r f pc lv (.int y :: .int x :: st) (kle y x Xt Xf) := fun hX H locs ls hP hS hl => lv_icmp_ge C.1.1 C.1.2.1 hdg ht (fun h => kt (by unfold kle at hX; rwa [if_pos h] at hX) H locs ls hP hS hl) (fun h => kf (by unfold kle at hX; rwa [if_neg h] at hX) H locs ls hP hS hl)
theorem K_if_ge (C : KC p l e R s m args below meth c w own cc nL ret d) {x : Int32} {off : Int} {tgt : Nat} {Xt Xf : Option (Int32 × kMem)} (ht : (pc : Int) + off = (tgt : Int)) (hdg : decode cc pc = .ok (.ifCond .ge off, 3)) (kt : K p l e R s m args below meth c w nL ret fo r f (tgt) lv (st) (Xt)) (kf : K p l e R s m args below meth c w nL ret fo r f (pc + 3) lv (st) (Xf)) : K p l e R s m args below meth c w nL ret fo r f pc lv (.int x :: st) (kle 0 x Xt Xf) := fun hX H locs ls hP hS hl => lv_if_ge C.1.1 C.1.2.1 hdg ht (fun h => kt (by unfold kle at hX; rwa [if_pos h] at hX) H locs ls hP hS hl) (fun h => kf (by unfold kle at hX; rwa [if_neg h] at hX) H locs ls hP hS hl)
theorem K_icmp_gt (C : KC p l e R s m args below meth c w own cc nL ret d) {x y : Int32} {off : Int} {tgt : Nat} {Xt Xf : Option (Int32 × kMem)} (ht : (pc : Int) + off = (tgt : Int)) (hdg : decode cc pc = .ok (.if_icmp .gt off, 3)) (kt : K p l e R s m args below meth c w nL ret fo r f (tgt) lv (st) (Xt)) (kf : K p l e R s m args below meth c w nL ret fo r f (pc + 3) lv (st) (Xf)) : K p l e R s m args below meth c w nL ret fo r f pc lv (.int y :: .int x :: st) (klt y x Xt Xf) := fun hX H locs ls hP hS hl => lv_icmp_gt C.1.1 C.1.2.1 hdg ht (fun h => kt (by unfold klt at hX; rwa [if_pos h] at hX) H locs ls hP hS hl) (fun h => kf (by unfold klt at hX; rwa [if_neg h] at hX) H locs ls hP hS hl)
theorem K_if_gt (C : KC p l e R s m args below meth c w own cc nL ret d) {x : Int32} {off : Int} {tgt : Nat} {Xt Xf : Option (Int32 × kMem)} (ht : (pc : Int) + off = (tgt : Int)) (hdg : decode cc pc = .ok (.ifCond .gt off, 3)) (kt : K p l e R s m args below meth c w nL ret fo r f (tgt) lv (st) (Xt)) (kf : K p l e R s m args below meth c w nL ret fo r f (pc + 3) lv (st) (Xf)) : K p l e R s m args below meth c w nL ret fo r f pc lv (.int x :: st) (klt 0 x Xt Xf) := fun hX H locs ls hP hS hl => lv_if_gt C.1.1 C.1.2.1 hdg ht (fun h => kt (by unfold klt at hX; rwa [if_pos h] at hX) H locs ls hP hS hl) (fun h => kf (by unfold klt at hX; rwa [if_neg h] at hX) H locs ls hP hS hl)
theorem K_icmp_le (C : KC p l e R s m args below meth c w own cc nL ret d) {x y : Int32} {off : Int} {tgt : Nat} {Xt Xf : Option (Int32 × kMem)} (ht : (pc : Int) + off = (tgt : Int)) (hdg : decode cc pc = .ok (.if_icmp .le off, 3)) (kt : K p l e R s m args below meth c w nL ret fo r f (tgt) lv (st) (Xt)) (kf : K p l e R s m args below meth c w nL ret fo r f (pc + 3) lv (st) (Xf)) : K p l e R s m args below meth c w nL ret fo r f pc lv (.int y :: .int x :: st) (kle x y Xt Xf) := fun hX H locs ls hP hS hl => lv_icmp_le C.1.1 C.1.2.1 hdg ht (fun h => kt (by unfold kle at hX; rwa [if_pos h] at hX) H locs ls hP hS hl) (fun h => kf (by unfold kle at hX; rwa [if_neg h] at hX) H locs ls hP hS hl)
theorem K_if_le (C : KC p l e R s m args below meth c w own cc nL ret d) {x : Int32} {off : Int} {tgt : Nat} {Xt Xf : Option (Int32 × kMem)} (ht : (pc : Int) + off = (tgt : Int)) (hdg : decode cc pc = .ok (.ifCond .le off, 3)) (kt : K p l e R s m args below meth c w nL ret fo r f (tgt) lv (st) (Xt)) (kf : K p l e R s m args below meth c w nL ret fo r f (pc + 3) lv (st) (Xf)) : K p l e R s m args below meth c w nL ret fo r f pc lv (.int x :: st) (kle x 0 Xt Xf) := fun hX H locs ls hP hS hl => lv_if_le C.1.1 C.1.2.1 hdg ht (fun h => kt (by unfold kle at hX; rwa [if_pos h] at hX) H locs ls hP hS hl) (fun h => kf (by unfold kle at hX; rwa [if_neg h] at hX) H locs ls hP hS hl)
theorem K_goto (C : KC p l e R s m args below meth c w own cc nL ret d) {off : Int} {tgt : Nat} (ht : (pc : Int) + off = (tgt : Int)) (hdg : decode cc pc = .ok (.goto off, 3)) (kk : K p l e R s m args below meth c w nL ret fo r f (tgt) lv (st) (X)) : K p l e R s m args below meth c w nL ret fo r f pc lv (st) (X) := fun hX H locs ls hP hS hl => lv_goto C.1.1 C.1.2.1 hdg ht (kk hX H locs ls hP hS hl)
theorem K_dup (C : KC p l e R s m args below meth c w own cc nL ret d) {va : Value} (hva : va.category = 1) (hdg : decode cc pc = .ok (.dup, 1)) (kk : K p l e R s m args below meth c w nL ret fo r f (pc + 1) lv (va :: va :: st) (X)) : K p l e R s m args below meth c w nL ret fo r f pc lv (va :: st) (X) := fun hX H locs ls hP hS hl => lv_dup C.1.1 C.1.2.1 hdg hva (kk hX H locs ls hP hS hl)
theorem K_dup2 (C : KC p l e R s m args below meth c w own cc nL ret d) {va vb : Value} (hva : va.category = 1) (hvb : vb.category = 1) (hdg : decode cc pc = .ok (.dup2, 1)) (kk : K p l e R s m args below meth c w nL ret fo r f (pc + 1) lv (va :: vb :: va :: vb :: st) (X)) : K p l e R s m args below meth c w nL ret fo r f pc lv (va :: vb :: st) (X) := fun hX H locs ls hP hS hl => lv_dup2_11 C.1.1 C.1.2.1 hdg hva hvb (kk hX H locs ls hP hS hl)
theorem K_dup_x1 (C : KC p l e R s m args below meth c w own cc nL ret d) {va vb : Value} (hva : va.category = 1) (hvb : vb.category = 1) (hdg : decode cc pc = .ok (.dup_x1, 1)) (kk : K p l e R s m args below meth c w nL ret fo r f (pc + 1) lv (va :: vb :: va :: st) (X)) : K p l e R s m args below meth c w nL ret fo r f pc lv (va :: vb :: st) (X) := fun hX H locs ls hP hS hl => lv_dup_x1 C.1.1 C.1.2.1 hdg hva hvb (kk hX H locs ls hP hS hl)
theorem K_pop (C : KC p l e R s m args below meth c w own cc nL ret d) {va : Value} (hva : va.category = 1) (hdg : decode cc pc = .ok (.pop, 1)) (kk : K p l e R s m args below meth c w nL ret fo r f (pc + 1) lv (st) (X)) : K p l e R s m args below meth c w nL ret fo r f pc lv (va :: st) (X) := fun hX H locs ls hP hS hl => lv_pop C.1.1 C.1.2.1 hdg hva (kk hX H locs ls hP hS hl)
theorem K_idiv (C : KC p l e R s m args below meth c w own cc nL ret d) {x y : Int32} (hdg : decode cc pc = .ok (.idiv, 1)) (kk : K p l e R s m args below meth c w nL ret fo r f (pc + 1) lv (.int (x / y) :: st) (X)) : K p l e R s m args below meth c w nL ret fo r f pc lv (.int y :: .int x :: st) (kchk (!decide (y = 0)) X) := fun hX H locs ls hP hS hl => lv_idiv C.1.1 C.1.2.1 hdg (by have h := (kchk_some hX).1; simpa using h) (kk (kchk_some hX).2 H locs ls hP hS hl)
theorem K_irem (C : KC p l e R s m args below meth c w own cc nL ret d) {x y : Int32} (hdg : decode cc pc = .ok (.irem, 1)) (kk : K p l e R s m args below meth c w nL ret fo r f (pc + 1) lv (.int (x - x / y * y) :: st) (X)) : K p l e R s m args below meth c w nL ret fo r f pc lv (.int y :: .int x :: st) (kchk (!decide (y = 0)) X) := fun hX H locs ls hP hS hl => lv_irem C.1.1 C.1.2.1 hdg (by have h := (kchk_some hX).1; simpa using h) (kk (kchk_some hX).2 H locs ls hP hS hl)
theorem K_ishl (C : KC p l e R s m args below meth c w own cc nL ret d) {x y : Int32} (hdg : decode cc pc = .ok (.ishl, 1)) (kk : K p l e R s m args below meth c w nL ret fo r f (pc + 1) lv (.int (x <<< (y &&& 31)) :: st) (X)) : K p l e R s m args below meth c w nL ret fo r f pc lv (.int y :: .int x :: st) (X) := fun hX H locs ls hP hS hl => lv_ishl C.1.1 C.1.2.1 hdg  (kk hX H locs ls hP hS hl)
theorem K_ishr (C : KC p l e R s m args below meth c w own cc nL ret d) {x y : Int32} (hdg : decode cc pc = .ok (.ishr, 1)) (kk : K p l e R s m args below meth c w nL ret fo r f (pc + 1) lv (.int (x >>> (y &&& 31)) :: st) (X)) : K p l e R s m args below meth c w nL ret fo r f pc lv (.int y :: .int x :: st) (X) := fun hX H locs ls hP hS hl => lv_ishr C.1.1 C.1.2.1 hdg  (kk hX H locs ls hP hS hl)
theorem K_iushr (C : KC p l e R s m args below meth c w own cc nL ret d) {x y : Int32} (hdg : decode cc pc = .ok (.iushr, 1)) (kk : K p l e R s m args below meth c w nL ret fo r f (pc + 1) lv (.int ((x.toUInt32 >>> (y.toUInt32 &&& Int32.toUInt32 31)).toInt32) :: st) (X)) : K p l e R s m args below meth c w nL ret fo r f pc lv (.int y :: .int x :: st) (X) := fun hX H locs ls hP hS hl => lv_iushr C.1.1 C.1.2.1 hdg rfl (kk hX H locs ls hP hS hl)
theorem K_i2c (C : KC p l e R s m args below meth c w own cc nL ret d) {x : Int32} (hdg : decode cc pc = .ok (.i2c, 1)) (kk : K p l e R s m args below meth c w nL ret fo r f (pc + 1) lv (.int ((x.toUInt32 % 65536).toInt32) :: st) (X)) : K p l e R s m args below meth c w nL ret fo r f pc lv (.int x :: st) (X) := fun hX H locs ls hP hS hl => lv_i2c C.1.1 C.1.2.1 hdg rfl (kk hX H locs ls hP hS hl)
theorem K_dup_x2 (C : KC p l e R s m args below meth c w own cc nL ret d) {va vb vd : Value} (hva : va.category = 1) (hvb : vb.category = 1) (hvd : vd.category = 1) (hdg : decode cc pc = .ok (.dup_x2, 1)) (kk : K p l e R s m args below meth c w nL ret fo r f (pc + 1) lv (va :: vb :: vd :: va :: st) (X)) : K p l e R s m args below meth c w nL ret fo r f pc lv (va :: vb :: vd :: st) (X) := fun hX H locs ls hP hS hl => lv_dup_x2 C.1.1 C.1.2.1 hdg hva hvb hvd (kk hX H locs ls hP hS hl)
theorem K_ldc (C : KC p l e R s m args below meth c w own cc nL ret d) {index : Nat} {v : Int32} (hc : Cond.constant own index v ∈ kGT) (hdg : decode cc pc = .ok (.ldc index, 2)) (kk : K p l e R s m args below meth c w nL ret fo r f (pc + 2) lv (.int v :: st) (X)) : K p l e R s m args below meth c w nL ret fo r f pc lv (st) (X) := fun hX H locs ls hP hS hl => lv_ldc C.1.1 C.1.2.1 C.1.2.2.2.1 (C.1.2.2.2.2 _ hc) hdg (kk hX H locs ls hP hS hl)
theorem K_ldc_w (C : KC p l e R s m args below meth c w own cc nL ret d) {index : Nat} {v : Int32} (hc : Cond.constant own index v ∈ kGT) (hdg : decode cc pc = .ok (.ldc_w index, 3)) (kk : K p l e R s m args below meth c w nL ret fo r f (pc + 3) lv (.int v :: st) (X)) : K p l e R s m args below meth c w nL ret fo r f pc lv (st) (X) := fun hX H locs ls hP hS hl => lv_ldcw C.1.1 C.1.2.1 C.1.2.2.2.1 (C.1.2.2.2.2 _ hc) hdg (kk hX H locs ls hP hS hl)
theorem kgt_all {ws : List Cond} (h : ws.all (fun z => decide (z ∈ lw_tbl) && goodWord z) = true) : ∀ z ∈ ws, z ∈ kGT := by
  intro z hz
  have h1 := List.all_eq_true.mp h z hz
  simp only [Bool.and_eq_true, decide_eq_true_eq] at h1
  exact kgt h1.1 h1.2
theorem kw_obj {w : KW} {f : kMem} {a ci : Nat} {fl : List (Option Nat)} (h : a < kn w) (hsh : ksh w a = .inr (ci, fl)) : (kw w f)[a]? = some (kad w a, .inr (ci, kfs w (f a) 0 fl)) := by
  rw [kw_get h]; unfold kcell; rw [hsh]
theorem kw_arr {w : KW} {f : kMem} {a n : Nat} (h : a < kn w) (hsh : ksh w a = .inl (0, n)) : (kw w f)[a]? = some (kad w a, .inl (w.1.2.1, n, .inl (f a))) := by
  rw [kw_get h]; unfold kcell; rw [hsh]; rfl
theorem kw_chr {w : KW} {f : kMem} {a n : Nat} (h : a < kn w) (hsh : ksh w a = .inl (1, n)) : (kw w f)[a]? = some (kad w a, .inl (w.1.2.2.1, n, .inl (f a))) := by
  rw [kw_get h]; unfold kcell; rw [hsh]; rfl
theorem kw_rfs {w : KW} {f : kMem} {a n : Nat} (h : a < kn w) (hsh : ksh w a = .inl (2, n)) : (kw w f)[a]? = some (kad w a, .inl (w.1.2.2.2, n, .inr (.inr (.inr (.inr (fun i => some (kad w (25 * (i + 2))))))))) := by
  rw [kw_get h]; unfold kcell; rw [hsh]; rfl
theorem K_getI (C : KC p l e R s m args below meth c w own cc nL ret d) {C1 : String} {T : u_T} {N ci index a : Nat} {ref : String} {fl : List (Option Nat)} (hin : ∀ z ∈ u_ws C1 T N, z ∈ kGT) (hc : vwCl[ci]? = some (C1, T, N)) (ha : a < kn w) (hsh : ksh w a = .inr (ci, fl)) (k : Nat) (hk : k < N) (hf : fl[k]? = some none) (hlink : Cond.fieldLink own index ref (T k).2.1 (T k).2.2.1 ∈ kGT) (hT1 : (T k).1 = ref) (hdg : decode cc pc = .ok (.getfield index, 3)) (kk : K p l e R s m args below meth c w nL ret fo r f (pc + 3) lv (.int (f a k) :: st) (X)) : K p l e R s m args below meth c w nL ret fo r f pc lv (.ref (kad w a) :: st) (X) := fun hX H locs ls hP hS hl => va_get C.1.1 C.1.2.1 C.1.2.2.2.2 hin C.1.2.2.2.1 C.2.1 hP a (kw_obj ha hsh) hc k hk (C.1.2.2.2.2 _ hlink) (fun x h => by rw [← hT1]; exact h) (v := .int (f a k)) (by have h := kfs_get w (f a) fl 0 k hf; rwa [Nat.zero_add] at h) hdg (kk hX H locs ls hP hS hl)
theorem K_getR (C : KC p l e R s m args below meth c w own cc nL ret d) {C1 : String} {T : u_T} {N ci index a : Nat} {ref : String} {fl : List (Option Nat)} (hin : ∀ z ∈ u_ws C1 T N, z ∈ kGT) (hc : vwCl[ci]? = some (C1, T, N)) (ha : a < kn w) (hsh : ksh w a = .inr (ci, fl)) (k : Nat) (hk : k < N) {b : Nat} (hf : fl[k]? = some (some b)) (hlink : Cond.fieldLink own index ref (T k).2.1 (T k).2.2.1 ∈ kGT) (hT1 : (T k).1 = ref) (hdg : decode cc pc = .ok (.getfield index, 3)) (kk : K p l e R s m args below meth c w nL ret fo r f (pc + 3) lv (.ref (kad w b) :: st) (X)) : K p l e R s m args below meth c w nL ret fo r f pc lv (.ref (kad w a) :: st) (X) := fun hX H locs ls hP hS hl => va_get C.1.1 C.1.2.1 C.1.2.2.2.2 hin C.1.2.2.2.1 C.2.1 hP a (kw_obj ha hsh) hc k hk (C.1.2.2.2.2 _ hlink) (fun x h => by rw [← hT1]; exact h) (v := .ref (kad w b)) (kfs_getr w (f a) fl 0 k hf) hdg (kk hX H locs ls hP hS hl)
theorem K_putI (C : KC p l e R s m args below meth c w own cc nL ret d) {C1 : String} {T : u_T} {N ci index a : Nat} {ref : String} {fl : List (Option Nat)} (hin : ∀ z ∈ u_ws C1 T N, z ∈ kGT) (hc : vwCl[ci]? = some (C1, T, N)) (ha : a < kn w) (hsh : ksh w a = .inr (ci, fl)) (k : Nat) (hk : k < N) (hf : fl[k]? = some none) (hlink : Cond.fieldLink own index ref (T k).2.1 (T k).2.2.1 ∈ kGT) (hT1 : (T k).1 = ref) (ty0 : Nat → FieldType) (hty : ∀ k, k < N → parseFieldDescriptor (T k).2.2.1 = some (ty0 k)) (hnm : ∀ a, a < N → ∀ b, b < N → a ≠ b → (T a).2.1 ≠ (T b).2.1) (hfin : (T k).2.2.2 = false) {ty : FieldType} {v : Int32} {Y : kMem → Option (Int32 × kMem)} (hd : parseFieldDescriptor (T k).2.2.1 = some ty) (hn : narrow ty (.int v) = .int v) (hfit : fits ty (.int v) = true) (hdg : decode cc pc = .ok (.putfield index, 3)) (kk : ∀ g : kMem, K p l e R s m args below meth c w nL ret fo r g (pc + 3) lv (st) (Y g)) : K p l e R s m args below meth c w nL ret fo r f pc lv (.int v :: .ref (kad w a) :: st) (kmem (kup f a k v) Y) := by
  intro hX H locs ls hP hS hl
  have hfk : k < fl.length := by
    rcases Nat.lt_or_ge k fl.length with h | h
    · exact h
    · rw [List.getElem?_eq_none h] at hf; cases hf
  refine va_put C.1.1 C.1.2.1 C.1.2.2.2.2 hin ty0 hty hnm C.1.2.2.2.1 C.2.1 hP (kw_D C.2.2.2.2.1) hS a (kw_obj ha hsh) hc k hk (C.1.2.2.2.2 _ hlink) (fun x h => by rw [← hT1]; exact h) hfin hd hn hfit (by rw [kfs_len]; exact hfk) hdg (fun H1 locs1 hP1 hD1 hS1 => ?_)
  rw [kw_set (f' := kup f a k v) (by unfold kcell; rw [hsh, kup_eq]; have h := kfs_set w (f a) v fl 0 k hf; rw [Nat.zero_add] at h; rw [h]) (fun b hb => kup_ne f k v hb)] at hP1
  exact kk _ hX H1 locs1 ls hP1 hS1 hl
theorem K_iald (C : KC p l e R s m args below meth c w own cc nL ret d) {a n : Nat} {i : Int32} (ha : a < kn w) (hsh : ksh w a = .inl (0, n)) (hdg : decode cc pc = .ok (.iaload, 1)) (kk : K p l e R s m args below meth c w nL ret fo r f (pc + 1) lv (.int (f a i.toNatClampNeg) :: st) (X)) : K p l e R s m args below meth c w nL ret fo r f pc lv (.int i :: .ref (kad w a) :: st) (kchk (kin i n) X) := fun hX H locs ls hP hS hl => va_iald C.1.1 C.1.2.1 C.2.1 hP a 0 (kw_arr ha hsh) rfl (kin_in (kchk_some hX).1) hdg (kk (kchk_some hX).2 H locs ls hP hS hl)
theorem K_ialdC (C : KC p l e R s m args below meth c w own cc nL ret d) {a n : Nat} {i : Int32} (ha : a < kn w) (hsh : ksh w a = .inl (0, n)) (hi : vp_in i n) (hdg : decode cc pc = .ok (.iaload, 1)) (kk : K p l e R s m args below meth c w nL ret fo r f (pc + 1) lv (.int (f a i.toNatClampNeg) :: st) (X)) : K p l e R s m args below meth c w nL ret fo r f pc lv (.int i :: .ref (kad w a) :: st) (X) := fun hX H locs ls hP hS hl => va_iald C.1.1 C.1.2.1 C.2.1 hP a 0 (kw_arr ha hsh) rfl hi hdg (kk hX H locs ls hP hS hl)
theorem K_cald (C : KC p l e R s m args below meth c w own cc nL ret d) {a n : Nat} {i : Int32} (ha : a < kn w) (hsh : ksh w a = .inl (1, n)) (hdg : decode cc pc = .ok (.caload, 1)) (kk : K p l e R s m args below meth c w nL ret fo r f (pc + 1) lv (.int (f a i.toNatClampNeg) :: st) (X)) : K p l e R s m args below meth c w nL ret fo r f pc lv (.int i :: .ref (kad w a) :: st) (kchk (kin i n) X) := fun hX H locs ls hP hS hl => va_cald C.1.1 C.1.2.1 C.2.1 hP a 1 (kw_chr ha hsh) rfl (kin_in (kchk_some hX).1) hdg (kk (kchk_some hX).2 H locs ls hP hS hl)
theorem K_caldC (C : KC p l e R s m args below meth c w own cc nL ret d) {a n : Nat} {i : Int32} (ha : a < kn w) (hsh : ksh w a = .inl (1, n)) (hi : vp_in i n) (hdg : decode cc pc = .ok (.caload, 1)) (kk : K p l e R s m args below meth c w nL ret fo r f (pc + 1) lv (.int (f a i.toNatClampNeg) :: st) (X)) : K p l e R s m args below meth c w nL ret fo r f pc lv (.int i :: .ref (kad w a) :: st) (X) := fun hX H locs ls hP hS hl => va_cald C.1.1 C.1.2.1 C.2.1 hP a 1 (kw_chr ha hsh) rfl hi hdg (kk hX H locs ls hP hS hl)
theorem K_aald (C : KC p l e R s m args below meth c w own cc nL ret d) {a n : Nat} {i : Int32} (ha : a < kn w) (hsh : ksh w a = .inl (2, n)) (hdg : decode cc pc = .ok (.aaload, 1)) (kk : K p l e R s m args below meth c w nL ret fo r f (pc + 1) lv (.ref (kad w (25 * (i.toNatClampNeg + 2))) :: st) (X)) : K p l e R s m args below meth c w nL ret fo r f pc lv (.int i :: .ref (kad w a) :: st) (kchk (kin i n) X) := fun hX H locs ls hP hS hl => va_aldq C.1.1 C.1.2.1 C.2.1 hP a 2 (kw_rfs ha hsh) rfl (kin_in (kchk_some hX).1) hdg (kk (kchk_some hX).2 H locs ls hP hS hl)
theorem K_iast (C : KC p l e R s m args below meth c w own cc nL ret d) {a n : Nat} {i : Int32} (ha : a < kn w) {x : Int32} {Y : kMem → Option (Int32 × kMem)} (hsh : ksh w a = .inl (0, n)) (hdg : decode cc pc = .ok (.iastore, 1)) (kk : ∀ g : kMem, K p l e R s m args below meth c w nL ret fo r g (pc + 1) lv (st) (Y g)) : K p l e R s m args below meth c w nL ret fo r f pc lv (.int x :: .int i :: .ref (kad w a) :: st) (kchk (kin i n) (kmem (kup f a i.toNatClampNeg (x)) Y)) := by
  intro hX H locs ls hP hS hl
  refine va_iast C.1.1 C.1.2.1 C.2.1 hP (kw_D C.2.2.2.2.1) hS a 0 (kw_arr ha hsh) rfl (kin_in (kchk_some hX).1) hdg (fun H1 locs1 hP1 hD1 hS1 => ?_)
  rw [kw_set (f' := kup f a i.toNatClampNeg (x)) (by unfold kcell; rw [hsh, kup_eq]; rfl) (fun b hb => kup_ne f _ _ hb)] at hP1
  exact kk _ (kchk_some hX).2 H1 locs1 ls hP1 hS1 hl
theorem K_iastC (C : KC p l e R s m args below meth c w own cc nL ret d) {a n : Nat} {i : Int32} (ha : a < kn w) {x : Int32} {Y : kMem → Option (Int32 × kMem)} (hsh : ksh w a = .inl (0, n)) (hi : vp_in i n) (hdg : decode cc pc = .ok (.iastore, 1)) (kk : ∀ g : kMem, K p l e R s m args below meth c w nL ret fo r g (pc + 1) lv (st) (Y g)) : K p l e R s m args below meth c w nL ret fo r f pc lv (.int x :: .int i :: .ref (kad w a) :: st) (kmem (kup f a i.toNatClampNeg (x)) Y) := by
  intro hX H locs ls hP hS hl
  refine va_iast C.1.1 C.1.2.1 C.2.1 hP (kw_D C.2.2.2.2.1) hS a 0 (kw_arr ha hsh) rfl hi hdg (fun H1 locs1 hP1 hD1 hS1 => ?_)
  rw [kw_set (f' := kup f a i.toNatClampNeg (x)) (by unfold kcell; rw [hsh, kup_eq]; rfl) (fun b hb => kup_ne f _ _ hb)] at hP1
  exact kk _ hX H1 locs1 ls hP1 hS1 hl
theorem K_cast (C : KC p l e R s m args below meth c w own cc nL ret d) {a n : Nat} {i : Int32} (ha : a < kn w) {x : Int32} {Y : kMem → Option (Int32 × kMem)} (hsh : ksh w a = .inl (1, n)) (hdg : decode cc pc = .ok (.castore, 1)) (kk : ∀ g : kMem, K p l e R s m args below meth c w nL ret fo r g (pc + 1) lv (st) (Y g)) : K p l e R s m args below meth c w nL ret fo r f pc lv (.int x :: .int i :: .ref (kad w a) :: st) (kchk (kin i n) (kmem (kup f a i.toNatClampNeg (vp_nar .char x)) Y)) := by
  intro hX H locs ls hP hS hl
  refine va_cast C.1.1 C.1.2.1 C.2.1 hP (kw_D C.2.2.2.2.1) hS a 1 (kw_chr ha hsh) rfl (kin_in (kchk_some hX).1) hdg (fun H1 locs1 hP1 hD1 hS1 => ?_)
  rw [kw_set (f' := kup f a i.toNatClampNeg (vp_nar .char x)) (by unfold kcell; rw [hsh, kup_eq]; rfl) (fun b hb => kup_ne f _ _ hb)] at hP1
  exact kk _ (kchk_some hX).2 H1 locs1 ls hP1 hS1 hl
theorem K_alen (C : KC p l e R s m args below meth c w own cc nL ret d) {a n : Nat} {v : Int32} (ha : a < kn w) (hsh : ksh w a = .inl (0, n)) (hv : Int32.ofNat n = v) (hdg : decode cc pc = .ok (.arraylength, 1)) (kk : K p l e R s m args below meth c w nL ret fo r f (pc + 1) lv (.int v :: st) (X)) : K p l e R s m args below meth c w nL ret fo r f pc lv (.ref (kad w a) :: st) (X) := fun hX H locs ls hP hS hl => va_alen C.1.1 C.1.2.1 C.2.1 hP a 0 (kw_arr ha hsh) rfl hv hdg (kk hX H locs ls hP hS hl)
theorem K_gs1 (C : KC p l e R s m args below meth c w own cc nL ret d) {index : Nat} (hw : Cond.fieldLinkNest own index "MouldFloor" "LEAST_SETTINGS" "[I" "MouldFloor" ∈ kNW) (hdg : decode cc pc = .ok (.getstatic index, 3)) (kk : K p l e R s m args below meth c w nL ret fo r f (pc + 3) lv (.ref (kad w (1000 + 1)) :: st) (X)) : K p l e R s m args below meth c w nL ret fo r f pc lv (st) (X) := fun hX H locs ls hP hS hl => va_getsN C.1.1 C.1.2.1 C.2.2.2.1.2.1.1 hS C.1.2.2.2.1 (va_Nw.use rfl (C.2.2.1 _ hw)) (fun x h => h) hdg (kk hX H locs ls hP hS hl)
theorem K_ts1 (C : KC p l e R s m args below meth c w own cc nL ret d) {i : Int32} (hdg : decode cc pc = .ok (.iaload, 1)) (kk : K p l e R s m args below meth c w nL ret fo r f (pc + 1) lv (.int (kst 1 i.toNatClampNeg) :: st) (X)) : K p l e R s m args below meth c w nL ret fo r f pc lv (.int i :: .ref (kad w (1000 + 1)) :: st) (kchk (kin i 4) X) := fun hX H locs ls hP hS hl => va_ti C.1.1 C.1.2.1 C.2.2.2.1.2.1.2 hS (kin_in (kchk_some hX).1) rfl hdg (kk (kchk_some hX).2 H locs ls hP hS hl)
theorem K_gs2 (C : KC p l e R s m args below meth c w own cc nL ret d) {index : Nat} (hw : Cond.fieldLinkNest own index "MouldFloor" "MOST_SETTINGS" "[I" "MouldFloor" ∈ kNW) (hdg : decode cc pc = .ok (.getstatic index, 3)) (kk : K p l e R s m args below meth c w nL ret fo r f (pc + 3) lv (.ref (kad w (1000 + 2)) :: st) (X)) : K p l e R s m args below meth c w nL ret fo r f pc lv (st) (X) := fun hX H locs ls hP hS hl => va_getsN C.1.1 C.1.2.1 C.2.2.2.1.2.2.1 hS C.1.2.2.2.1 (va_Nw.use rfl (C.2.2.1 _ hw)) (fun x h => h) hdg (kk hX H locs ls hP hS hl)
theorem K_ts2 (C : KC p l e R s m args below meth c w own cc nL ret d) {i : Int32} (hdg : decode cc pc = .ok (.iaload, 1)) (kk : K p l e R s m args below meth c w nL ret fo r f (pc + 1) lv (.int (kst 2 i.toNatClampNeg) :: st) (X)) : K p l e R s m args below meth c w nL ret fo r f pc lv (.int i :: .ref (kad w (1000 + 2)) :: st) (kchk (kin i 4) X) := fun hX H locs ls hP hS hl => va_ti C.1.1 C.1.2.1 C.2.2.2.1.2.2.2 hS (kin_in (kchk_some hX).1) rfl hdg (kk (kchk_some hX).2 H locs ls hP hS hl)
theorem K_gs0 (C : KC p l e R s m args below meth c w own cc nL ret d) {index : Nat} (hw : Cond.fieldLinkNest own index "MouldFloor" "FIRST_SETTINGS" "[I" "MouldFloor" ∈ kNW) (hdg : decode cc pc = .ok (.getstatic index, 3)) (kk : K p l e R s m args below meth c w nL ret fo r f (pc + 3) lv (.ref (kad w (1000 + 0)) :: st) (X)) : K p l e R s m args below meth c w nL ret fo r f pc lv (st) (X) := fun hX H locs ls hP hS hl => va_getsN C.1.1 C.1.2.1 C.2.2.2.1.1.1 hS C.1.2.2.2.1 (va_Nw.use rfl (C.2.2.1 _ hw)) (fun x h => h) hdg (kk hX H locs ls hP hS hl)
theorem K_ts0 (C : KC p l e R s m args below meth c w own cc nL ret d) {i : Int32} (hdg : decode cc pc = .ok (.iaload, 1)) (kk : K p l e R s m args below meth c w nL ret fo r f (pc + 1) lv (.int (kst 0 i.toNatClampNeg) :: st) (X)) : K p l e R s m args below meth c w nL ret fo r f pc lv (.int i :: .ref (kad w (1000 + 0)) :: st) (kchk (kin i 4) X) := fun hX H locs ls hP hS hl => va_ti C.1.1 C.1.2.1 C.2.2.2.1.1.2 hS (kin_in (kchk_some hX).1) rfl hdg (kk (kchk_some hX).2 H locs ls hP hS hl)
theorem K_ret (C : KC p l e R s m args below meth c w own cc nL ret d) {ty : FieldType} {v : Int32} (hret : ret = some ty) (hn : narrow ty (.int v) = .int v) (hdg : decode cc pc = .ok (.ireturn, 1)) : K p l e R s m args below meth c w nL ret fo r f pc lv ([.int v]) (some (v, f)) := by
  intro hX H locs ls hP hS hl
  injection hX with hX
  injection hX with h1 h2
  subst h1; subst h2; subst hret
  exact W.zret C.1.1 C.1.2.1 C.2.2.2.2.2.1 hn (fun t ht hW => ⟨rfl, by rw [ht]; exact hP, hS.F ht⟩) hS.2.2 hdg C.2.2.2.2.2.2.1
def kbool (v : Int32) : Bool := decide (v = 0) || decide (v = 1)
theorem kbool_n {v : Int32} (h : kbool v = true) : narrow .boolean (.int v) = .int v := by
  simp only [kbool, Bool.or_eq_true, decide_eq_true_eq] at h
  rcases h with rfl | rfl <;> rfl
theorem K_bret (C : KC p l e R s m args below meth c w own cc nL ret d) {v : Int32} (hret : ret = some .boolean) (hdg : decode cc pc = .ok (.ireturn, 1)) : K p l e R s m args below meth c w nL ret fo r f pc lv ([.int v]) (kchk (kbool v) (some (v, f))) := fun hX => K_ret C hret (kbool_n (kchk_some hX).1) hdg (kchk_some hX).2
theorem K_vret (C : KC p l e R s m args below meth c w own cc nL ret d) (hret : ret = none) (hdg : decode cc pc = .ok (.return_, 1)) : K p l e R s m args below meth c w nL ret fo r f pc lv ([]) (some (0, f)) := by
  intro hX H locs ls hP hS hl
  injection hX with hX
  injection hX with h1 h2
  subst h1; subst h2; subst hret
  exact W.vret C.1.1 C.1.2.1 C.2.2.2.2.2.1 (fun t ht hW => ⟨rfl, by rw [ht]; exact hP, hS.F ht⟩) hS.2.2 hdg C.2.2.2.2.2.2.1
theorem K_tin (C : KC p l e R s m args below meth c w own cc nL ret d) {dflt lo hi : Int} {offs : Array Int} {len : Nat} {x : Int32} {off : Int} {tgt : Nat} (h1 : ¬ x.toInt < lo) (h2 : ¬ hi < x.toInt) (ho : offs[(x.toInt - lo).toNat]? = some off) (ht : (pc : Int) + off = (tgt : Int)) (hdg : decode cc pc = .ok (.tableswitch dflt lo hi offs, len)) (kk : K p l e R s m args below meth c w nL ret fo r f (tgt) lv (st) (X)) : K p l e R s m args below meth c w nL ret fo r f pc lv (.int x :: st) (X) := fun hX H locs ls hP hS hl => lv_tableIn C.1.1 C.1.2.1 hdg h1 h2 ho ht (kk hX H locs ls hP hS hl)
theorem K_tout (C : KC p l e R s m args below meth c w own cc nL ret d) {dflt lo hi : Int} {offs : Array Int} {len : Nat} {x : Int32} {tgt : Nat} (h : x.toInt < lo ∨ hi < x.toInt) (ht : (pc : Int) + dflt = (tgt : Int)) (hdg : decode cc pc = .ok (.tableswitch dflt lo hi offs, len)) (kk : K p l e R s m args below meth c w nL ret fo r f (tgt) lv (st) (X)) : K p l e R s m args below meth c w nL ret fo r f pc lv (.int x :: st) (X) := fun hX H locs ls hP hS hl => lv_tableOut C.1.1 C.1.2.1 hdg h ht (kk hX H locs ls hP hS hl)
theorem K_lsw (C : KC p l e R s m args below meth c w own cc nL ret d) {dflt : Int} {ps : Array (Int × Int)} {len : Nat} {x : Int32} {off : Int} {tgt : Nat} (hp : (ps.toList.zip (ps.toList.drop 1)).all (fun (a, next) => a.1 < next.1) = true) (ho : Op.lookupswitch.offset ps.toList dflt x.toInt = off) (ht : (pc : Int) + off = (tgt : Int)) (hdg : decode cc pc = .ok (.lookupswitch dflt ps, len)) (kk : K p l e R s m args below meth c w nL ret fo r f (tgt) lv (st) (X)) : K p l e R s m args below meth c w nL ret fo r f pc lv (.int x :: st) (X) := fun hX H locs ls hP hS hl => lv_lookup C.1.1 C.1.2.1 hdg hp ho ht (kk hX H locs ls hP hS hl)
theorem kne {x v : Int32} (n : Int) (hv : v.toInt = n) (h : ¬ x = v) : x.toInt ≠ n := fun e => h (Int32.toInt_inj.mp (e.trans hv.symm))
def kY (y : MethodName) (b : ByteArray) (nL : Nat) (ret : Option FieldType) (n : Nat) : Prop := Cond.code y b nL ret ∈ kGT ∧ Cond.initialized y.cls ∈ kGT ∧ (y.cls ≠ "java/lang/invoke/MethodHandle" ∧ y.cls ≠ "java/lang/invoke/VarHandle" ∧ (parseMethodDescriptor y.desc).map (fun d => d.parameters.length) = some n) ∧ nL ≤ 40
def kYV (y : MethodName) (b : ByteArray) (nL : Nat) (ret : Option FieldType) (n : Nat) : Prop := kY y b nL ret n ∧ Cond.instanceMethod y ∈ kGT ∧ Cond.selects y.cls y y ∈ kGT
def kYS (y : MethodName) (b : ByteArray) (nL : Nat) (ret : Option FieldType) (n : Nat) : Prop := kY y b nL ret n ∧ Cond.static y ∈ kGT
theorem kcode_in {y : MethodName} {b : ByteArray} {nL : Nat} {ret : Option FieldType} (h : Cond.code y b nL ret ∈ kGT) : GoodIn kGT (.code y b nL ret :: kGT) := kgt_good (fun z hz => by
  rcases List.mem_cons.mp hz with rfl | hz
  · exact h
  · exact hz)
theorem kblind {w : KW} {f : kMem} {av : List Value} {sz : Nat} : FrameBlind (va_Pc av (fun U => U.heap.size = sz ∧ kB w f U)) := fun a U g mk q => by
  obtain ⟨q0, q1, qP, qK, qD, qN, qS⟩ := q
  exact ⟨q0, q1, qP, va_K.moved (u := U) (U := U.calling g mk a) (Vm.Alike.refl U.vm) qK, qD, kNW_same (s := U) (U := U.calling g mk a) rfl qN, kS_to (s := U) (U := U.calling g mk a) (Nat.le_refl _) (Vm.Alike.refl U.vm) (fun _ _ _ => rfl) qS⟩
theorem kpre (C : KC p l e R s m args below meth c w own cc nL ret d) {H : Heap} {locs : List Loc} (hP : va_P w.1.1 vwCl (kw w f) H) (hS : va_S (kA w s.heap.size) s.heap H locs) (av : List Value) : ∀ U : State, U.heap = H → s.WarmedH U.vm → va_Pc av (fun U => U.heap.size = H.size ∧ kB w f U) av.toArray U := by
  intro U hU hW
  refine ⟨rfl, by rw [hU], by rw [hU]; exact hP, va_K.moved hW.alike C.2.1, ⟨(kw_D C.2.2.2.2.1).1, fun _ _ _ => trivial⟩, kNW_moved hW C.2.2.1, ?_⟩
  exact kS_to (by rw [hU]; exact hS.1) hW.alike (fun a h1 h2 => by rw [hU]; exact hS.2.1 a h1 h2) C.2.2.2.1
theorem kgo {ret1 : Option FieldType} {r1 : Int32} {f1 : kMem} {H : Heap} {locs : List Loc} {ls : Array Slot} {st0 rest : List Value} {a : Array Value} {Q : State → Prop} (hr : va_Run p l e R s m args below meth c H locs 0 0 0 0 (F0 m pc ls st0) rest (kQ w ret1 r1 f1 H.size a) (kA w H.size)) (hS : va_S (kA w s.heap.size) s.heap H locs)
    (kk : ∀ (H1 : Heap) (locs1 : List Loc), va_P w.1.1 vwCl (kw w f1) H1 → va_S (kA w s.heap.size) s.heap H1 locs1 → W p l e R s m args below meth c H1 locs1 0 0 Q (F0 m (pc + 3) ls ((krv ret1 r1).toList ++ rest))) : W p l e R s m args below meth c H locs 0 0 Q (F0 m pc ls st0) := by
  intro T hT X
  obtain ⟨v, st₀, t, T', L, h0, X', hL, e1, e2, ⟨hv, hp, hz, hk⟩, st⟩ := hr T hT X
  injection hv with hv
  subst hv
  rw [h0] at hz hk
  obtain ⟨t2, a1, b1⟩ := kk T'.heap (locs ++ L) (by rw [e1]; exact hp)
    ⟨Nat.le_trans hS.1 (by rw [e1]; exact hz), fun q h1 h2 => by rw [e1, hk q (Nat.lt_of_lt_of_le h1 hS.1) (fun z => h2 (kA_mono hS.1 z))]; exact hS.2.1 q h1 h2, fun q hq => by
      rcases List.mem_append.mp hq with h | h
      · exact hS.2.2 q h
      · exact kA_mono hS.1 (hL q h)⟩ T' rfl X'
  exact ⟨t2, st t2 a1, b1⟩
theorem K_callVv (C : KC p l e R s m args below meth c w own cc nL ret d) {y : MethodName} {b1 : ByteArray} {nL1 : Nat} {ret1 : Option FieldType} {d1 idx n : Nat} {As rest : List Value} {Z : Option (Int32 × kMem)} {Y : Int32 → kMem → Option (Int32 × kMem)} {a ci : Nat} {fl : List (Option Nat)} {T1 : u_T} {N1 : Nat} (ha : a < kn w) (hsh : ksh w a = .inr (ci, fl)) (hci : vwCl[ci]? = some (y.cls, T1, N1)) (hY : kYV y b1 nL1 ret1 n) (hlink : Cond.methodLink own idx y ∈ kGT) (hd1 : d1 < d) (hM : ∀ r1 f1, Z = some (r1, f1) → kMet l w y b1 nL1 ret1 d1 (.ref (kad w a) :: As) f r1 f1) (hn : As.length = n) (hst : st = As.reverse ++ .ref (kad w a) :: rest) (hrest : (rest.map fun v => v.category).sum ≤ 8) (hret1 : ret1 = none) (hdg : decode cc pc = .ok (.invokevirtual idx, 3)) (kk : ∀ (r1 : Int32) (f1 : kMem), K p l e R s m args below meth c w nL ret fo r f1 (pc + 3) lv (rest) (Y r1 f1)) : K p l e R s m args below meth c w nL ret fo r f pc lv (st) (kbind Z Y) := by
  intro hX H locs ls hP hS hl
  obtain ⟨r1, f1, h1, h2⟩ := kbind_some hX
  subst hst; subst hret1
  have hR : (kRm d1).frames + 1 ≤ R.frames ∧ 8 + (nL1 + 11) + (kRm d1).locals ≤ R.locals := by
    rw [C.2.2.2.2.2.2.2]
    have := hY.1.2.2.2
    exact ⟨hd1, by show 8 + (nL1 + 11) + 64 * d1 ≤ 64 * d; omega⟩
  have cf : CallFix p m c cc nL s args kGT own := C.1
  have hts := C.1.2.2.2.2
  refine kgo (ret1 := none) (r1 := r1) (f1 := f1) (va_runV (C := y.cls) (As := As) (rest := rest) cf (hM r1 f1 h1 H.size) ⟨(callB_of n hts (kcode_in hY.1.1) rfl rfl rfl (hts _ hY.1.2.1) (hts _ hlink) hY.1.2.2.1 hR), hts _ hY.2.1, hts _ hY.2.2⟩ ⟨kblind, va_recv C.2.1 hP hci (kw_obj ha hsh), kpre C hP hS _⟩ rfl hn (hl.1.trans rfl) rfl (lv_room hrest) hdg ⟨Nat.zero_le _, Nat.zero_le _⟩) hS (fun H1 locs1 hP1 hS1 => ?_)
  exact kk r1 f1 h2 H1 locs1 ls hP1 hS1 hl
theorem K_callSv (C : KC p l e R s m args below meth c w own cc nL ret d) {y : MethodName} {b1 : ByteArray} {nL1 : Nat} {ret1 : Option FieldType} {d1 idx n : Nat} {As rest : List Value} {Z : Option (Int32 × kMem)} {Y : Int32 → kMem → Option (Int32 × kMem)} (hY : kYS y b1 nL1 ret1 n) (hlink : Cond.methodLink own idx y ∈ kGT) (hd1 : d1 < d) (hM : ∀ r1 f1, Z = some (r1, f1) → kMet l w y b1 nL1 ret1 d1 (As) f r1 f1) (hn : As.length = n) (hst : st = As.reverse ++ rest) (hrest : (rest.map fun v => v.category).sum ≤ 8) (hret1 : ret1 = none) (hdg : decode cc pc = .ok (.invokestatic idx, 3)) (kk : ∀ (r1 : Int32) (f1 : kMem), K p l e R s m args below meth c w nL ret fo r f1 (pc + 3) lv (rest) (Y r1 f1)) : K p l e R s m args below meth c w nL ret fo r f pc lv (st) (kbind Z Y) := by
  intro hX H locs ls hP hS hl
  obtain ⟨r1, f1, h1, h2⟩ := kbind_some hX
  subst hst; subst hret1
  have hR : (kRm d1).frames + 1 ≤ R.frames ∧ 8 + (nL1 + 11) + (kRm d1).locals ≤ R.locals := by
    rw [C.2.2.2.2.2.2.2]
    have := hY.1.2.2.2
    exact ⟨hd1, by show 8 + (nL1 + 11) + 64 * d1 ≤ 64 * d; omega⟩
  have cf : CallFix p m c cc nL s args kGT own := C.1
  have hts := C.1.2.2.2.2
  refine kgo (ret1 := none) (r1 := r1) (f1 := f1) (va_runS (As := As) (rest := rest) cf (hM r1 f1 h1 H.size) ⟨(callB_of n hts (kcode_in hY.1.1) rfl rfl rfl (hts _ hY.1.2.1) (hts _ hlink) hY.1.2.2.1 hR), hts _ hY.2⟩ ⟨kblind, kpre C hP hS _⟩ rfl hn (hl.1.trans rfl) rfl (lv_room hrest) hdg ⟨Nat.zero_le _, Nat.zero_le _⟩) hS (fun H1 locs1 hP1 hS1 => ?_)
  exact kk r1 f1 h2 H1 locs1 ls hP1 hS1 hl
theorem K_callSNv (C : KC p l e R s m args below meth c w own cc nL ret d) {y : MethodName} {b1 : ByteArray} {nL1 : Nat} {ret1 : Option FieldType} {d1 idx n : Nat} {As rest : List Value} {Z : Option (Int32 × kMem)} {Y : Int32 → kMem → Option (Int32 × kMem)} (hY : kYS y b1 nL1 ret1 n) (hlink : Cond.methodLinkNest own idx y "MouldFloor" ∈ kNW) (hd1 : d1 < d) (hM : ∀ r1 f1, Z = some (r1, f1) → kMet l w y b1 nL1 ret1 d1 (As) f r1 f1) (hn : As.length = n) (hst : st = As.reverse ++ rest) (hrest : (rest.map fun v => v.category).sum ≤ 8) (hret1 : ret1 = none) (hdg : decode cc pc = .ok (.invokestatic idx, 3)) (kk : ∀ (r1 : Int32) (f1 : kMem), K p l e R s m args below meth c w nL ret fo r f1 (pc + 3) lv (rest) (Y r1 f1)) : K p l e R s m args below meth c w nL ret fo r f pc lv (st) (kbind Z Y) := by
  intro hX H locs ls hP hS hl
  obtain ⟨r1, f1, h1, h2⟩ := kbind_some hX
  subst hst; subst hret1
  have hR : (kRm d1).frames + 1 ≤ R.frames ∧ 8 + (nL1 + 11) + (kRm d1).locals ≤ R.locals := by
    rw [C.2.2.2.2.2.2.2]
    have := hY.1.2.2.2
    exact ⟨hd1, by show 8 + (nL1 + 11) + 64 * d1 ≤ 64 * d; omega⟩
  have cf : CallFix p m c cc nL s args kGT own := C.1
  have hts := C.1.2.2.2.2
  refine kgo (ret1 := none) (r1 := r1) (f1 := f1) (va_runSN (As := As) (rest := rest) cf (hM r1 f1 h1 H.size) ⟨(va_cnB n hts (kcode_in hY.1.1) rfl rfl rfl (C.2.2.1 _ hlink) (hts _ hY.1.2.1) hY.1.2.2.1 hR), hts _ hY.2, trivial⟩ ⟨kblind, kpre C hP hS _⟩ rfl hn (hl.1.trans rfl) rfl (lv_room hrest) hdg ⟨Nat.zero_le _, Nat.zero_le _⟩) hS (fun H1 locs1 hP1 hS1 => ?_)
  exact kk r1 f1 h2 H1 locs1 ls hP1 hS1 hl
theorem K_callVi (C : KC p l e R s m args below meth c w own cc nL ret d) {y : MethodName} {b1 : ByteArray} {nL1 : Nat} {ret1 : Option FieldType} {d1 idx n : Nat} {As rest : List Value} {Z : Option (Int32 × kMem)} {Y : Int32 → kMem → Option (Int32 × kMem)} {a ci : Nat} {fl : List (Option Nat)} {T1 : u_T} {N1 : Nat} (ha : a < kn w) (hsh : ksh w a = .inr (ci, fl)) (hci : vwCl[ci]? = some (y.cls, T1, N1)) (hY : kYV y b1 nL1 ret1 n) (hlink : Cond.methodLink own idx y ∈ kGT) (hd1 : d1 < d) (hM : ∀ r1 f1, Z = some (r1, f1) → kMet l w y b1 nL1 ret1 d1 (.ref (kad w a) :: As) f r1 f1) (hn : As.length = n) (hst : st = As.reverse ++ .ref (kad w a) :: rest) (hrest : (rest.map fun v => v.category).sum ≤ 8) {ty1 : FieldType} (hret1 : ret1 = some ty1) (hdg : decode cc pc = .ok (.invokevirtual idx, 3)) (kk : ∀ (r1 : Int32) (f1 : kMem), K p l e R s m args below meth c w nL ret fo r f1 (pc + 3) lv (.int r1 :: rest) (Y r1 f1)) : K p l e R s m args below meth c w nL ret fo r f pc lv (st) (kbind Z Y) := by
  intro hX H locs ls hP hS hl
  obtain ⟨r1, f1, h1, h2⟩ := kbind_some hX
  subst hst; subst hret1
  have hR : (kRm d1).frames + 1 ≤ R.frames ∧ 8 + (nL1 + 11) + (kRm d1).locals ≤ R.locals := by
    rw [C.2.2.2.2.2.2.2]
    have := hY.1.2.2.2
    exact ⟨hd1, by show 8 + (nL1 + 11) + 64 * d1 ≤ 64 * d; omega⟩
  have cf : CallFix p m c cc nL s args kGT own := C.1
  have hts := C.1.2.2.2.2
  refine kgo (ret1 := some ty1) (r1 := r1) (f1 := f1) (va_runV (C := y.cls) (As := As) (rest := rest) cf (hM r1 f1 h1 H.size) ⟨(callB_of n hts (kcode_in hY.1.1) rfl rfl rfl (hts _ hY.1.2.1) (hts _ hlink) hY.1.2.2.1 hR), hts _ hY.2.1, hts _ hY.2.2⟩ ⟨kblind, va_recv C.2.1 hP hci (kw_obj ha hsh), kpre C hP hS _⟩ rfl hn (hl.1.trans rfl) rfl (lv_room hrest) hdg ⟨Nat.zero_le _, Nat.zero_le _⟩) hS (fun H1 locs1 hP1 hS1 => ?_)
  exact kk r1 f1 h2 H1 locs1 ls hP1 hS1 hl
theorem K_callSi (C : KC p l e R s m args below meth c w own cc nL ret d) {y : MethodName} {b1 : ByteArray} {nL1 : Nat} {ret1 : Option FieldType} {d1 idx n : Nat} {As rest : List Value} {Z : Option (Int32 × kMem)} {Y : Int32 → kMem → Option (Int32 × kMem)} (hY : kYS y b1 nL1 ret1 n) (hlink : Cond.methodLink own idx y ∈ kGT) (hd1 : d1 < d) (hM : ∀ r1 f1, Z = some (r1, f1) → kMet l w y b1 nL1 ret1 d1 (As) f r1 f1) (hn : As.length = n) (hst : st = As.reverse ++ rest) (hrest : (rest.map fun v => v.category).sum ≤ 8) {ty1 : FieldType} (hret1 : ret1 = some ty1) (hdg : decode cc pc = .ok (.invokestatic idx, 3)) (kk : ∀ (r1 : Int32) (f1 : kMem), K p l e R s m args below meth c w nL ret fo r f1 (pc + 3) lv (.int r1 :: rest) (Y r1 f1)) : K p l e R s m args below meth c w nL ret fo r f pc lv (st) (kbind Z Y) := by
  intro hX H locs ls hP hS hl
  obtain ⟨r1, f1, h1, h2⟩ := kbind_some hX
  subst hst; subst hret1
  have hR : (kRm d1).frames + 1 ≤ R.frames ∧ 8 + (nL1 + 11) + (kRm d1).locals ≤ R.locals := by
    rw [C.2.2.2.2.2.2.2]
    have := hY.1.2.2.2
    exact ⟨hd1, by show 8 + (nL1 + 11) + 64 * d1 ≤ 64 * d; omega⟩
  have cf : CallFix p m c cc nL s args kGT own := C.1
  have hts := C.1.2.2.2.2
  refine kgo (ret1 := some ty1) (r1 := r1) (f1 := f1) (va_runS (As := As) (rest := rest) cf (hM r1 f1 h1 H.size) ⟨(callB_of n hts (kcode_in hY.1.1) rfl rfl rfl (hts _ hY.1.2.1) (hts _ hlink) hY.1.2.2.1 hR), hts _ hY.2⟩ ⟨kblind, kpre C hP hS _⟩ rfl hn (hl.1.trans rfl) rfl (lv_room hrest) hdg ⟨Nat.zero_le _, Nat.zero_le _⟩) hS (fun H1 locs1 hP1 hS1 => ?_)
  exact kk r1 f1 h2 H1 locs1 ls hP1 hS1 hl
theorem K_callSNi (C : KC p l e R s m args below meth c w own cc nL ret d) {y : MethodName} {b1 : ByteArray} {nL1 : Nat} {ret1 : Option FieldType} {d1 idx n : Nat} {As rest : List Value} {Z : Option (Int32 × kMem)} {Y : Int32 → kMem → Option (Int32 × kMem)} (hY : kYS y b1 nL1 ret1 n) (hlink : Cond.methodLinkNest own idx y "MouldFloor" ∈ kNW) (hd1 : d1 < d) (hM : ∀ r1 f1, Z = some (r1, f1) → kMet l w y b1 nL1 ret1 d1 (As) f r1 f1) (hn : As.length = n) (hst : st = As.reverse ++ rest) (hrest : (rest.map fun v => v.category).sum ≤ 8) {ty1 : FieldType} (hret1 : ret1 = some ty1) (hdg : decode cc pc = .ok (.invokestatic idx, 3)) (kk : ∀ (r1 : Int32) (f1 : kMem), K p l e R s m args below meth c w nL ret fo r f1 (pc + 3) lv (.int r1 :: rest) (Y r1 f1)) : K p l e R s m args below meth c w nL ret fo r f pc lv (st) (kbind Z Y) := by
  intro hX H locs ls hP hS hl
  obtain ⟨r1, f1, h1, h2⟩ := kbind_some hX
  subst hst; subst hret1
  have hR : (kRm d1).frames + 1 ≤ R.frames ∧ 8 + (nL1 + 11) + (kRm d1).locals ≤ R.locals := by
    rw [C.2.2.2.2.2.2.2]
    have := hY.1.2.2.2
    exact ⟨hd1, by show 8 + (nL1 + 11) + 64 * d1 ≤ 64 * d; omega⟩
  have cf : CallFix p m c cc nL s args kGT own := C.1
  have hts := C.1.2.2.2.2
  refine kgo (ret1 := some ty1) (r1 := r1) (f1 := f1) (va_runSN (As := As) (rest := rest) cf (hM r1 f1 h1 H.size) ⟨(va_cnB n hts (kcode_in hY.1.1) rfl rfl rfl (C.2.2.1 _ hlink) (hts _ hY.1.2.1) hY.1.2.2.1 hR), hts _ hY.2, trivial⟩ ⟨kblind, kpre C hP hS _⟩ rfl hn (hl.1.trans rfl) rfl (lv_room hrest) hdg ⟨Nat.zero_le _, Nat.zero_le _⟩) hS (fun H1 locs1 hP1 hS1 => ?_)
  exact kk r1 f1 h2 H1 locs1 ls hP1 hS1 hl
end KROWS
end
