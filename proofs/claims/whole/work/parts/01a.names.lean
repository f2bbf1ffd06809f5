-- ===== PART A: goes FIRST, ahead of the names: the tables' words, and 'selects' of the private methods out of them =====
/-- a private method of a class that the tables say can be made, by its rows of tables_1 -/
def lw_okq (q : MethodName × Nat) : Prop := (q.1.cls ≠ "java/lang/invoke/MethodHandle" ∧ q.1.cls ≠ "java/lang/invoke/VarHandle") ∧ Cond.instantiable q.1.cls q.2 ∈ tables_1 ∧ Cond.privateMethod q.1 ∈ tables_1 ∧ Cond.instanceMethod q.1 ∈ tables_1
theorem lw_p0 : lw_okq (⟨"AlexanderMatrix$Polynomial", "lowerDegree", "(I)V"⟩, 2) := ⟨⟨by decide +kernel, by decide +kernel⟩, List.mem_of_getElem? (i := 116) (by decide +kernel), List.mem_of_getElem? (i := 138) (by decide +kernel), List.mem_of_getElem? (i := 139) (by decide +kernel)⟩
theorem lw_p1 : lw_okq (⟨"AlexanderMatrix$CrossingRow", "write", "(IIIIII)V"⟩, 3) := ⟨⟨by decide +kernel, by decide +kernel⟩, List.mem_of_getElem? (i := 23) (by decide +kernel), List.mem_of_getElem? (i := 225) (by decide +kernel), List.mem_of_getElem? (i := 226) (by decide +kernel)⟩
theorem lw_p2 : lw_okq (⟨"AlexanderMatrix$DiagramRules", "findPartners", "(LAlexanderMatrix$CrossingRow;I)Z"⟩, 4) := ⟨⟨by decide +kernel, by decide +kernel⟩, List.mem_of_getElem? (i := 40) (by decide +kernel), List.mem_of_getElem? (i := 244) (by decide +kernel), List.mem_of_getElem? (i := 245) (by decide +kernel)⟩
theorem lw_p3 : lw_okq (⟨"AlexanderMatrix$DiagramRules", "partnersAreEdges", "(LAlexanderMatrix$CrossingRow;I)Z"⟩, 4) := ⟨⟨by decide +kernel, by decide +kernel⟩, List.mem_of_getElem? (i := 40) (by decide +kernel), List.mem_of_getElem? (i := 253) (by decide +kernel), List.mem_of_getElem? (i := 254) (by decide +kernel)⟩
theorem lw_p4 : lw_okq (⟨"AlexanderMatrix$DiagramRules", "findPieces", "(I)V"⟩, 4) := ⟨⟨by decide +kernel, by decide +kernel⟩, List.mem_of_getElem? (i := 40) (by decide +kernel), List.mem_of_getElem? (i := 277) (by decide +kernel), List.mem_of_getElem? (i := 278) (by decide +kernel)⟩
theorem lw_p5 : lw_okq (⟨"AlexanderMatrix$DiagramRules", "pieceAt", "(I)I"⟩, 4) := ⟨⟨by decide +kernel, by decide +kernel⟩, List.mem_of_getElem? (i := 40) (by decide +kernel), List.mem_of_getElem? (i := 281) (by decide +kernel), List.mem_of_getElem? (i := 282) (by decide +kernel)⟩
theorem lw_p6 : lw_okq (⟨"AlexanderMatrix$DiagramRules", "piecesAreSpheres", "(I)Z"⟩, 4) := ⟨⟨by decide +kernel, by decide +kernel⟩, List.mem_of_getElem? (i := 40) (by decide +kernel), List.mem_of_getElem? (i := 285) (by decide +kernel), List.mem_of_getElem? (i := 286) (by decide +kernel)⟩
theorem lw_p7 : lw_okq (⟨"AlexanderMatrix$DiagramRules", "countFaces", "(I)V"⟩, 4) := ⟨⟨by decide +kernel, by decide +kernel⟩, List.mem_of_getElem? (i := 40) (by decide +kernel), List.mem_of_getElem? (i := 292) (by decide +kernel), List.mem_of_getElem? (i := 293) (by decide +kernel)⟩
theorem lw_p8 : lw_okq (⟨"AlexanderMatrix$DiagramRules", "goRound", "(I)V"⟩, 4) := ⟨⟨by decide +kernel, by decide +kernel⟩, List.mem_of_getElem? (i := 40) (by decide +kernel), List.mem_of_getElem? (i := 296) (by decide +kernel), List.mem_of_getElem? (i := 297) (by decide +kernel)⟩
theorem lw_p9 : lw_okq (⟨"AlexanderMatrix$DiagramRules", "addSurplus", "(II)V"⟩, 4) := ⟨⟨by decide +kernel, by decide +kernel⟩, List.mem_of_getElem? (i := 40) (by decide +kernel), List.mem_of_getElem? (i := 300) (by decide +kernel), List.mem_of_getElem? (i := 301) (by decide +kernel)⟩
theorem lw_p10 : lw_okq (⟨"AlexanderMatrix", "readDiagram", "()V"⟩, 10) := ⟨⟨by decide +kernel, by decide +kernel⟩, List.mem_of_getElem? (i := 15) (by decide +kernel), List.mem_of_getElem? (i := 311) (by decide +kernel), List.mem_of_getElem? (i := 312) (by decide +kernel)⟩
theorem lw_p11 : lw_okq (⟨"AlexanderMatrix$ArcList", "joinOver", "(II)V"⟩, 5) := ⟨⟨by decide +kernel, by decide +kernel⟩, List.mem_of_getElem? (i := 60) (by decide +kernel), List.mem_of_getElem? (i := 331) (by decide +kernel), List.mem_of_getElem? (i := 332) (by decide +kernel)⟩
theorem lw_p12 : lw_okq (⟨"AlexanderMatrix$ArcList", "insert", "(I)V"⟩, 5) := ⟨⟨by decide +kernel, by decide +kernel⟩, List.mem_of_getElem? (i := 60) (by decide +kernel), List.mem_of_getElem? (i := 338) (by decide +kernel), List.mem_of_getElem? (i := 339) (by decide +kernel)⟩
theorem lw_p13 : lw_okq (⟨"AlexanderMatrix$EntryTable", "add", "(IIII)V"⟩, 4) := ⟨⟨by decide +kernel, by decide +kernel⟩, List.mem_of_getElem? (i := 82) (by decide +kernel), List.mem_of_getElem? (i := 363) (by decide +kernel), List.mem_of_getElem? (i := 364) (by decide +kernel)⟩
theorem lw_p14 : lw_okq (⟨"AlexanderMatrix", "normalForm", "()LAlexanderMatrix$Polynomial;"⟩, 10) := ⟨⟨by decide +kernel, by decide +kernel⟩, List.mem_of_getElem? (i := 15) (by decide +kernel), List.mem_of_getElem? (i := 386) (by decide +kernel), List.mem_of_getElem? (i := 387) (by decide +kernel)⟩
theorem lw_p15 : lw_okq (⟨"AlexanderMatrix$MinorTaker", "fillCells", "(LAlexanderMatrix$EntryTable;I)V"⟩, 5) := ⟨⟨by decide +kernel, by decide +kernel⟩, List.mem_of_getElem? (i := 103) (by decide +kernel), List.mem_of_getElem? (i := 405) (by decide +kernel), List.mem_of_getElem? (i := 406) (by decide +kernel)⟩
def lw_privs_1 : List (MethodName × Nat) := [(⟨"AlexanderMatrix$Polynomial", "lowerDegree", "(I)V"⟩, 2), (⟨"AlexanderMatrix$CrossingRow", "write", "(IIIIII)V"⟩, 3), (⟨"AlexanderMatrix$DiagramRules", "findPartners", "(LAlexanderMatrix$CrossingRow;I)Z"⟩, 4), (⟨"AlexanderMatrix$DiagramRules", "partnersAreEdges", "(LAlexanderMatrix$CrossingRow;I)Z"⟩, 4), (⟨"AlexanderMatrix$DiagramRules", "findPieces", "(I)V"⟩, 4), (⟨"AlexanderMatrix$DiagramRules", "pieceAt", "(I)I"⟩, 4), (⟨"AlexanderMatrix$DiagramRules", "piecesAreSpheres", "(I)Z"⟩, 4), (⟨"AlexanderMatrix$DiagramRules", "countFaces", "(I)V"⟩, 4), (⟨"AlexanderMatrix$DiagramRules", "goRound", "(I)V"⟩, 4), (⟨"AlexanderMatrix$DiagramRules", "addSurplus", "(II)V"⟩, 4), (⟨"AlexanderMatrix", "readDiagram", "()V"⟩, 10), (⟨"AlexanderMatrix$ArcList", "joinOver", "(II)V"⟩, 5), (⟨"AlexanderMatrix$ArcList", "insert", "(I)V"⟩, 5), (⟨"AlexanderMatrix$EntryTable", "add", "(IIII)V"⟩, 4), (⟨"AlexanderMatrix", "normalForm", "()LAlexanderMatrix$Polynomial;"⟩, 10), (⟨"AlexanderMatrix$MinorTaker", "fillCells", "(LAlexanderMatrix$EntryTable;I)V"⟩, 5)]
theorem lw_r1 : ∀ q ∈ lw_privs_1, lw_okq q := List.forall_mem_cons.mpr ⟨lw_p0, List.forall_mem_cons.mpr ⟨lw_p1, List.forall_mem_cons.mpr ⟨lw_p2, List.forall_mem_cons.mpr ⟨lw_p3, List.forall_mem_cons.mpr ⟨lw_p4, List.forall_mem_cons.mpr ⟨lw_p5, List.forall_mem_cons.mpr ⟨lw_p6, List.forall_mem_cons.mpr ⟨lw_p7, List.forall_mem_cons.mpr ⟨lw_p8, List.forall_mem_cons.mpr ⟨lw_p9, List.forall_mem_cons.mpr ⟨lw_p10, List.forall_mem_cons.mpr ⟨lw_p11, List.forall_mem_cons.mpr ⟨lw_p12, List.forall_mem_cons.mpr ⟨lw_p13, List.forall_mem_cons.mpr ⟨lw_p14, List.forall_mem_cons.mpr ⟨lw_p15, fun _ h => absurd h List.not_mem_nil⟩⟩⟩⟩⟩⟩⟩⟩⟩⟩⟩⟩⟩⟩⟩⟩
theorem lw_p16 : lw_okq (⟨"AlexanderMatrix$Determinant", "cell", "(II)LAlexanderMatrix$Polynomial;"⟩, 3) := ⟨⟨by decide +kernel, by decide +kernel⟩, List.mem_of_getElem? (i := 109) (by decide +kernel), List.mem_of_getElem? (i := 424) (by decide +kernel), List.mem_of_getElem? (i := 425) (by decide +kernel)⟩
theorem lw_p17 : lw_okq (⟨"AlexanderMatrix$Determinant", "findPivot", "(II)I"⟩, 3) := ⟨⟨by decide +kernel, by decide +kernel⟩, List.mem_of_getElem? (i := 109) (by decide +kernel), List.mem_of_getElem? (i := 433) (by decide +kernel), List.mem_of_getElem? (i := 434) (by decide +kernel)⟩
theorem lw_p18 : lw_okq (⟨"AlexanderMatrix$Determinant", "exchangeRows", "(II)V"⟩, 3) := ⟨⟨by decide +kernel, by decide +kernel⟩, List.mem_of_getElem? (i := 109) (by decide +kernel), List.mem_of_getElem? (i := 441) (by decide +kernel), List.mem_of_getElem? (i := 442) (by decide +kernel)⟩
theorem lw_p19 : lw_okq (⟨"AlexanderMatrix$Determinant", "clearBelow", "(IILAlexanderMatrix$Polynomial;)V"⟩, 3) := ⟨⟨by decide +kernel, by decide +kernel⟩, List.mem_of_getElem? (i := 109) (by decide +kernel), List.mem_of_getElem? (i := 445) (by decide +kernel), List.mem_of_getElem? (i := 446) (by decide +kernel)⟩
theorem lw_p20 : lw_okq (⟨"AlexanderMatrix$Polynomial", "addShifted", "(LAlexanderMatrix$Polynomial;IJ)V"⟩, 2) := ⟨⟨by decide +kernel, by decide +kernel⟩, List.mem_of_getElem? (i := 116) (by decide +kernel), List.mem_of_getElem? (i := 457) (by decide +kernel), List.mem_of_getElem? (i := 458) (by decide +kernel)⟩
theorem lw_p21 : lw_okq (⟨"AlexanderMatrix$ModularRank", "findPivot", "(III)I"⟩, 1) := ⟨⟨by decide +kernel, by decide +kernel⟩, List.mem_of_getElem? (i := 170) (by decide +kernel), List.mem_of_getElem? (i := 535) (by decide +kernel), List.mem_of_getElem? (i := 536) (by decide +kernel)⟩
theorem lw_p22 : lw_okq (⟨"AlexanderMatrix$ModularRank", "exchangeRows", "(II)V"⟩, 1) := ⟨⟨by decide +kernel, by decide +kernel⟩, List.mem_of_getElem? (i := 170) (by decide +kernel), List.mem_of_getElem? (i := 539) (by decide +kernel), List.mem_of_getElem? (i := 540) (by decide +kernel)⟩
theorem lw_p23 : lw_okq (⟨"AlexanderMatrix$ModularRank", "clearBelow", "(IIII)V"⟩, 1) := ⟨⟨by decide +kernel, by decide +kernel⟩, List.mem_of_getElem? (i := 170) (by decide +kernel), List.mem_of_getElem? (i := 543) (by decide +kernel), List.mem_of_getElem? (i := 544) (by decide +kernel)⟩
theorem lw_p24 : lw_okq (⟨"AlexanderMatrix$CrossingRow", "makeOne", "(II)V"⟩, 3) := ⟨⟨by decide +kernel, by decide +kernel⟩, List.mem_of_getElem? (i := 23) (by decide +kernel), List.mem_of_getElem? (i := 571) (by decide +kernel), List.mem_of_getElem? (i := 572) (by decide +kernel)⟩
theorem lw_p25 : lw_okq (⟨"AlexanderMatrix$CrossingRow", "remove", "(I)V"⟩, 3) := ⟨⟨by decide +kernel, by decide +kernel⟩, List.mem_of_getElem? (i := 23) (by decide +kernel), List.mem_of_getElem? (i := 577) (by decide +kernel), List.mem_of_getElem? (i := 578) (by decide +kernel)⟩
theorem lw_p26 : lw_okq (⟨"AlexanderMatrixModel", "take", "()V"⟩, 30) := ⟨⟨by decide +kernel, by decide +kernel⟩, List.mem_of_getElem? (i := 581) (by decide +kernel), List.mem_of_getElem? (i := 686) (by decide +kernel), List.mem_of_getElem? (i := 687) (by decide +kernel)⟩
theorem lw_p27 : lw_okq (⟨"AlexanderMatrixModel", "fault", "()I"⟩, 30) := ⟨⟨by decide +kernel, by decide +kernel⟩, List.mem_of_getElem? (i := 581) (by decide +kernel), List.mem_of_getElem? (i := 690) (by decide +kernel), List.mem_of_getElem? (i := 691) (by decide +kernel)⟩
theorem lw_p28 : lw_okq (⟨"AlexanderMatrixModel", "badLabel", "(Z)I"⟩, 30) := ⟨⟨by decide +kernel, by decide +kernel⟩, List.mem_of_getElem? (i := 581) (by decide +kernel), List.mem_of_getElem? (i := 694) (by decide +kernel), List.mem_of_getElem? (i := 695) (by decide +kernel)⟩
theorem lw_p29 : lw_okq (⟨"AlexanderMatrixModel", "sort", "()V"⟩, 30) := ⟨⟨by decide +kernel, by decide +kernel⟩, List.mem_of_getElem? (i := 581) (by decide +kernel), List.mem_of_getElem? (i := 698) (by decide +kernel), List.mem_of_getElem? (i := 699) (by decide +kernel)⟩
theorem lw_p30 : lw_okq (⟨"AlexanderMatrixModel", "placeOf", "(IZ)I"⟩, 30) := ⟨⟨by decide +kernel, by decide +kernel⟩, List.mem_of_getElem? (i := 581) (by decide +kernel), List.mem_of_getElem? (i := 702) (by decide +kernel), List.mem_of_getElem? (i := 703) (by decide +kernel)⟩
theorem lw_p31 : lw_okq (⟨"AlexanderMatrixModel", "isOut", "(I)Z"⟩, 30) := ⟨⟨by decide +kernel, by decide +kernel⟩, List.mem_of_getElem? (i := 581) (by decide +kernel), List.mem_of_getElem? (i := 706) (by decide +kernel), List.mem_of_getElem? (i := 707) (by decide +kernel)⟩
def lw_privs_2 : List (MethodName × Nat) := [(⟨"AlexanderMatrix$Determinant", "cell", "(II)LAlexanderMatrix$Polynomial;"⟩, 3), (⟨"AlexanderMatrix$Determinant", "findPivot", "(II)I"⟩, 3), (⟨"AlexanderMatrix$Determinant", "exchangeRows", "(II)V"⟩, 3), (⟨"AlexanderMatrix$Determinant", "clearBelow", "(IILAlexanderMatrix$Polynomial;)V"⟩, 3), (⟨"AlexanderMatrix$Polynomial", "addShifted", "(LAlexanderMatrix$Polynomial;IJ)V"⟩, 2), (⟨"AlexanderMatrix$ModularRank", "findPivot", "(III)I"⟩, 1), (⟨"AlexanderMatrix$ModularRank", "exchangeRows", "(II)V"⟩, 1), (⟨"AlexanderMatrix$ModularRank", "clearBelow", "(IIII)V"⟩, 1), (⟨"AlexanderMatrix$CrossingRow", "makeOne", "(II)V"⟩, 3), (⟨"AlexanderMatrix$CrossingRow", "remove", "(I)V"⟩, 3), (⟨"AlexanderMatrixModel", "take", "()V"⟩, 30), (⟨"AlexanderMatrixModel", "fault", "()I"⟩, 30), (⟨"AlexanderMatrixModel", "badLabel", "(Z)I"⟩, 30), (⟨"AlexanderMatrixModel", "sort", "()V"⟩, 30), (⟨"AlexanderMatrixModel", "placeOf", "(IZ)I"⟩, 30), (⟨"AlexanderMatrixModel", "isOut", "(I)Z"⟩, 30)]
theorem lw_r2 : ∀ q ∈ lw_privs_2, lw_okq q := List.forall_mem_cons.mpr ⟨lw_p16, List.forall_mem_cons.mpr ⟨lw_p17, List.forall_mem_cons.mpr ⟨lw_p18, List.forall_mem_cons.mpr ⟨lw_p19, List.forall_mem_cons.mpr ⟨lw_p20, List.forall_mem_cons.mpr ⟨lw_p21, List.forall_mem_cons.mpr ⟨lw_p22, List.forall_mem_cons.mpr ⟨lw_p23, List.forall_mem_cons.mpr ⟨lw_p24, List.forall_mem_cons.mpr ⟨lw_p25, List.forall_mem_cons.mpr ⟨lw_p26, List.forall_mem_cons.mpr ⟨lw_p27, List.forall_mem_cons.mpr ⟨lw_p28, List.forall_mem_cons.mpr ⟨lw_p29, List.forall_mem_cons.mpr ⟨lw_p30, List.forall_mem_cons.mpr ⟨lw_p31, fun _ h => absurd h List.not_mem_nil⟩⟩⟩⟩⟩⟩⟩⟩⟩⟩⟩⟩⟩⟩⟩⟩
theorem lw_p32 : lw_okq (⟨"AlexanderMatrixModel", "badPiece", "()I"⟩, 30) := ⟨⟨by decide +kernel, by decide +kernel⟩, List.mem_of_getElem? (i := 581) (by decide +kernel), List.mem_of_getElem? (i := 710) (by decide +kernel), List.mem_of_getElem? (i := 711) (by decide +kernel)⟩
theorem lw_p33 : lw_okq (⟨"AlexanderMatrixModel", "hang", "()V"⟩, 30) := ⟨⟨by decide +kernel, by decide +kernel⟩, List.mem_of_getElem? (i := 581) (by decide +kernel), List.mem_of_getElem? (i := 714) (by decide +kernel), List.mem_of_getElem? (i := 715) (by decide +kernel)⟩
theorem lw_p34 : lw_okq (⟨"AlexanderMatrixModel", "findFaces", "()V"⟩, 30) := ⟨⟨by decide +kernel, by decide +kernel⟩, List.mem_of_getElem? (i := 581) (by decide +kernel), List.mem_of_getElem? (i := 718) (by decide +kernel), List.mem_of_getElem? (i := 719) (by decide +kernel)⟩
theorem lw_p35 : lw_okq (⟨"AlexanderMatrixModel", "rowOf", "(I)I"⟩, 30) := ⟨⟨by decide +kernel, by decide +kernel⟩, List.mem_of_getElem? (i := 581) (by decide +kernel), List.mem_of_getElem? (i := 722) (by decide +kernel), List.mem_of_getElem? (i := 723) (by decide +kernel)⟩
theorem lw_p36 : lw_okq (⟨"AlexanderMatrixModel", "turn", "(I)I"⟩, 30) := ⟨⟨by decide +kernel, by decide +kernel⟩, List.mem_of_getElem? (i := 581) (by decide +kernel), List.mem_of_getElem? (i := 726) (by decide +kernel), List.mem_of_getElem? (i := 727) (by decide +kernel)⟩
theorem lw_p37 : lw_okq (⟨"AlexanderMatrixModel", "facesAt", "(I)I"⟩, 30) := ⟨⟨by decide +kernel, by decide +kernel⟩, List.mem_of_getElem? (i := 581) (by decide +kernel), List.mem_of_getElem? (i := 730) (by decide +kernel), List.mem_of_getElem? (i := 731) (by decide +kernel)⟩
theorem lw_p38 : lw_okq (⟨"AlexanderMatrixModel", "back", "()V"⟩, 30) := ⟨⟨by decide +kernel, by decide +kernel⟩, List.mem_of_getElem? (i := 581) (by decide +kernel), List.mem_of_getElem? (i := 734) (by decide +kernel), List.mem_of_getElem? (i := 735) (by decide +kernel)⟩
theorem lw_p39 : lw_okq (⟨"AlexanderMatrixModel", "know", "()V"⟩, 30) := ⟨⟨by decide +kernel, by decide +kernel⟩, List.mem_of_getElem? (i := 581) (by decide +kernel), List.mem_of_getElem? (i := 742) (by decide +kernel), List.mem_of_getElem? (i := 743) (by decide +kernel)⟩
theorem lw_p40 : lw_okq (⟨"AlexanderMatrixModel", "fill", "()V"⟩, 30) := ⟨⟨by decide +kernel, by decide +kernel⟩, List.mem_of_getElem? (i := 581) (by decide +kernel), List.mem_of_getElem? (i := 746) (by decide +kernel), List.mem_of_getElem? (i := 747) (by decide +kernel)⟩
theorem lw_p41 : lw_okq (⟨"AlexanderMatrixModel", "findArcs", "()V"⟩, 30) := ⟨⟨by decide +kernel, by decide +kernel⟩, List.mem_of_getElem? (i := 581) (by decide +kernel), List.mem_of_getElem? (i := 750) (by decide +kernel), List.mem_of_getElem? (i := 751) (by decide +kernel)⟩
theorem lw_p42 : lw_okq (⟨"AlexanderMatrixModel", "arcOf", "(I)I"⟩, 30) := ⟨⟨by decide +kernel, by decide +kernel⟩, List.mem_of_getElem? (i := 581) (by decide +kernel), List.mem_of_getElem? (i := 754) (by decide +kernel), List.mem_of_getElem? (i := 755) (by decide +kernel)⟩
theorem lw_p43 : lw_okq (⟨"AlexanderMatrixModel", "next", "(I)I"⟩, 30) := ⟨⟨by decide +kernel, by decide +kernel⟩, List.mem_of_getElem? (i := 581) (by decide +kernel), List.mem_of_getElem? (i := 764) (by decide +kernel), List.mem_of_getElem? (i := 765) (by decide +kernel)⟩
theorem lw_p44 : lw_okq (⟨"AlexanderMatrixModel", "arcNumber", "(I)I"⟩, 30) := ⟨⟨by decide +kernel, by decide +kernel⟩, List.mem_of_getElem? (i := 581) (by decide +kernel), List.mem_of_getElem? (i := 768) (by decide +kernel), List.mem_of_getElem? (i := 769) (by decide +kernel)⟩
theorem lw_p45 : lw_okq (⟨"AlexanderMatrixModel", "addEntry", "(IIII)V"⟩, 30) := ⟨⟨by decide +kernel, by decide +kernel⟩, List.mem_of_getElem? (i := 581) (by decide +kernel), List.mem_of_getElem? (i := 772) (by decide +kernel), List.mem_of_getElem? (i := 773) (by decide +kernel)⟩
theorem lw_p46 : lw_okq (⟨"AlexanderMatrixModel", "sumUp", "(I)V"⟩, 30) := ⟨⟨by decide +kernel, by decide +kernel⟩, List.mem_of_getElem? (i := 581) (by decide +kernel), List.mem_of_getElem? (i := 776) (by decide +kernel), List.mem_of_getElem? (i := 777) (by decide +kernel)⟩
theorem lw_p47 : lw_okq (⟨"AlexanderMatrixModel", "carry", "(III)V"⟩, 30) := ⟨⟨by decide +kernel, by decide +kernel⟩, List.mem_of_getElem? (i := 581) (by decide +kernel), List.mem_of_getElem? (i := 783) (by decide +kernel), List.mem_of_getElem? (i := 784) (by decide +kernel)⟩
def lw_privs_3 : List (MethodName × Nat) := [(⟨"AlexanderMatrixModel", "badPiece", "()I"⟩, 30), (⟨"AlexanderMatrixModel", "hang", "()V"⟩, 30), (⟨"AlexanderMatrixModel", "findFaces", "()V"⟩, 30), (⟨"AlexanderMatrixModel", "rowOf", "(I)I"⟩, 30), (⟨"AlexanderMatrixModel", "turn", "(I)I"⟩, 30), (⟨"AlexanderMatrixModel", "facesAt", "(I)I"⟩, 30), (⟨"AlexanderMatrixModel", "back", "()V"⟩, 30), (⟨"AlexanderMatrixModel", "know", "()V"⟩, 30), (⟨"AlexanderMatrixModel", "fill", "()V"⟩, 30), (⟨"AlexanderMatrixModel", "findArcs", "()V"⟩, 30), (⟨"AlexanderMatrixModel", "arcOf", "(I)I"⟩, 30), (⟨"AlexanderMatrixModel", "next", "(I)I"⟩, 30), (⟨"AlexanderMatrixModel", "arcNumber", "(I)I"⟩, 30), (⟨"AlexanderMatrixModel", "addEntry", "(IIII)V"⟩, 30), (⟨"AlexanderMatrixModel", "sumUp", "(I)V"⟩, 30), (⟨"AlexanderMatrixModel", "carry", "(III)V"⟩, 30)]
theorem lw_r3 : ∀ q ∈ lw_privs_3, lw_okq q := List.forall_mem_cons.mpr ⟨lw_p32, List.forall_mem_cons.mpr ⟨lw_p33, List.forall_mem_cons.mpr ⟨lw_p34, List.forall_mem_cons.mpr ⟨lw_p35, List.forall_mem_cons.mpr ⟨lw_p36, List.forall_mem_cons.mpr ⟨lw_p37, List.forall_mem_cons.mpr ⟨lw_p38, List.forall_mem_cons.mpr ⟨lw_p39, List.forall_mem_cons.mpr ⟨lw_p40, List.forall_mem_cons.mpr ⟨lw_p41, List.forall_mem_cons.mpr ⟨lw_p42, List.forall_mem_cons.mpr ⟨lw_p43, List.forall_mem_cons.mpr ⟨lw_p44, List.forall_mem_cons.mpr ⟨lw_p45, List.forall_mem_cons.mpr ⟨lw_p46, List.forall_mem_cons.mpr ⟨lw_p47, fun _ h => absurd h List.not_mem_nil⟩⟩⟩⟩⟩⟩⟩⟩⟩⟩⟩⟩⟩⟩⟩⟩
theorem lw_p48 : lw_okq (⟨"AlexanderMatrixModel", "findDivisor", "()V"⟩, 30) := ⟨⟨by decide +kernel, by decide +kernel⟩, List.mem_of_getElem? (i := 581) (by decide +kernel), List.mem_of_getElem? (i := 790) (by decide +kernel), List.mem_of_getElem? (i := 791) (by decide +kernel)⟩
theorem lw_p49 : lw_okq (⟨"AlexanderMatrixModel", "lowest", "(I)I"⟩, 30) := ⟨⟨by decide +kernel, by decide +kernel⟩, List.mem_of_getElem? (i := 581) (by decide +kernel), List.mem_of_getElem? (i := 794) (by decide +kernel), List.mem_of_getElem? (i := 795) (by decide +kernel)⟩
theorem lw_p50 : lw_okq (⟨"AlexanderMatrixModel", "divides", "(II)Z"⟩, 30) := ⟨⟨by decide +kernel, by decide +kernel⟩, List.mem_of_getElem? (i := 581) (by decide +kernel), List.mem_of_getElem? (i := 798) (by decide +kernel), List.mem_of_getElem? (i := 799) (by decide +kernel)⟩
theorem lw_p51 : lw_okq (⟨"AlexanderMatrixModel", "degree", "()I"⟩, 30) := ⟨⟨by decide +kernel, by decide +kernel⟩, List.mem_of_getElem? (i := 581) (by decide +kernel), List.mem_of_getElem? (i := 802) (by decide +kernel), List.mem_of_getElem? (i := 803) (by decide +kernel)⟩
theorem lw_p52 : lw_okq (⟨"AlexanderMatrixModel", "valueAt", "(I)J"⟩, 30) := ⟨⟨by decide +kernel, by decide +kernel⟩, List.mem_of_getElem? (i := 581) (by decide +kernel), List.mem_of_getElem? (i := 806) (by decide +kernel), List.mem_of_getElem? (i := 807) (by decide +kernel)⟩
theorem lw_p53 : lw_okq (⟨"AlexanderMatrixModel", "rowWith", "(II)I"⟩, 30) := ⟨⟨by decide +kernel, by decide +kernel⟩, List.mem_of_getElem? (i := 581) (by decide +kernel), List.mem_of_getElem? (i := 841) (by decide +kernel), List.mem_of_getElem? (i := 842) (by decide +kernel)⟩
theorem lw_p54 : lw_okq (⟨"AlexanderMatrixModel", "upperIn", "(I)I"⟩, 30) := ⟨⟨by decide +kernel, by decide +kernel⟩, List.mem_of_getElem? (i := 581) (by decide +kernel), List.mem_of_getElem? (i := 849) (by decide +kernel), List.mem_of_getElem? (i := 850) (by decide +kernel)⟩
theorem lw_p55 : lw_okq (⟨"AlexanderMatrixModel", "join", "(II)V"⟩, 30) := ⟨⟨by decide +kernel, by decide +kernel⟩, List.mem_of_getElem? (i := 581) (by decide +kernel), List.mem_of_getElem? (i := 857) (by decide +kernel), List.mem_of_getElem? (i := 858) (by decide +kernel)⟩
theorem lw_p56 : lw_okq (⟨"AlexanderMatrixModel", "rename", "(II)V"⟩, 30) := ⟨⟨by decide +kernel, by decide +kernel⟩, List.mem_of_getElem? (i := 581) (by decide +kernel), List.mem_of_getElem? (i := 861) (by decide +kernel), List.mem_of_getElem? (i := 862) (by decide +kernel)⟩
def lw_privs_4 : List (MethodName × Nat) := [(⟨"AlexanderMatrixModel", "findDivisor", "()V"⟩, 30), (⟨"AlexanderMatrixModel", "lowest", "(I)I"⟩, 30), (⟨"AlexanderMatrixModel", "divides", "(II)Z"⟩, 30), (⟨"AlexanderMatrixModel", "degree", "()I"⟩, 30), (⟨"AlexanderMatrixModel", "valueAt", "(I)J"⟩, 30), (⟨"AlexanderMatrixModel", "rowWith", "(II)I"⟩, 30), (⟨"AlexanderMatrixModel", "upperIn", "(I)I"⟩, 30), (⟨"AlexanderMatrixModel", "join", "(II)V"⟩, 30), (⟨"AlexanderMatrixModel", "rename", "(II)V"⟩, 30)]
theorem lw_r4 : ∀ q ∈ lw_privs_4, lw_okq q := List.forall_mem_cons.mpr ⟨lw_p48, List.forall_mem_cons.mpr ⟨lw_p49, List.forall_mem_cons.mpr ⟨lw_p50, List.forall_mem_cons.mpr ⟨lw_p51, List.forall_mem_cons.mpr ⟨lw_p52, List.forall_mem_cons.mpr ⟨lw_p53, List.forall_mem_cons.mpr ⟨lw_p54, List.forall_mem_cons.mpr ⟨lw_p55, List.forall_mem_cons.mpr ⟨lw_p56, fun _ h => absurd h List.not_mem_nil⟩⟩⟩⟩⟩⟩⟩⟩⟩
def lw_privs : List (MethodName × Nat) := lw_privs_1 ++ (lw_privs_2 ++ (lw_privs_3 ++ (lw_privs_4)))
def lw_tbl : List Cond := k2_sels lw_privs ++ tables_1
theorem lw_privs_ok : ∀ q ∈ lw_privs, lw_okq q := by
  show ∀ q ∈ lw_privs_1 ++ (lw_privs_2 ++ (lw_privs_3 ++ (lw_privs_4))), lw_okq q
  exact List.forall_mem_append.mpr ⟨lw_r1, List.forall_mem_append.mpr ⟨lw_r2, List.forall_mem_append.mpr ⟨lw_r3, lw_r4⟩⟩⟩
-- names: classes, fields in the order of the slots, their types
def R_AM : String := "AlexanderMatrix"
def F_AM : u_T := fun k => match k with
  | 0 => ("AlexanderMatrix", "putIn", "LAlexanderMatrix$CrossingRow;", true)
  | 1 => ("AlexanderMatrix", "diagram", "LAlexanderMatrix$CrossingRow;", true)
  | 2 => ("AlexanderMatrix", "rules", "LAlexanderMatrix$DiagramRules;", true)
  | 3 => ("AlexanderMatrix", "arcs", "LAlexanderMatrix$ArcList;", true)
  | 4 => ("AlexanderMatrix", "entries", "LAlexanderMatrix$EntryTable;", true)
  | 5 => ("AlexanderMatrix", "minors", "LAlexanderMatrix$MinorTaker;", true)
  | 6 => ("AlexanderMatrix", "ranks", "LAlexanderMatrix$ModularRank;", true)
  | 7 => ("AlexanderMatrix", "normal", "LAlexanderMatrix$Polynomial;", true)
  | 8 => ("AlexanderMatrix", "circles", "I", false)
  | _ => ("AlexanderMatrix", "normalKnown", "Z", false)
def t_AM : Nat → FieldType := fun k => match k with
  | 0 => .object "AlexanderMatrix$CrossingRow"
  | 1 => .object "AlexanderMatrix$CrossingRow"
  | 2 => .object "AlexanderMatrix$DiagramRules"
  | 3 => .object "AlexanderMatrix$ArcList"
  | 4 => .object "AlexanderMatrix$EntryTable"
  | 5 => .object "AlexanderMatrix$MinorTaker"
  | 6 => .object "AlexanderMatrix$ModularRank"
  | 7 => .object "AlexanderMatrix$Polynomial"
  | 8 => .int
  | _ => .boolean
def R_AL : String := "AlexanderMatrix$ArcList"
def F_AL : u_T := fun k => match k with
  | 0 => ("AlexanderMatrix$ArcList", "labels", "[I", true)
  | 1 => ("AlexanderMatrix$ArcList", "leastAt", "[I", true)
  | 2 => ("AlexanderMatrix$ArcList", "leasts", "[I", true)
  | 3 => ("AlexanderMatrix$ArcList", "places", "I", false)
  | _ => ("AlexanderMatrix$ArcList", "count", "I", false)
def t_AL : Nat → FieldType := fun k => match k with
  | 0 => .array .int
  | 1 => .array .int
  | 2 => .array .int
  | 3 => .int
  | _ => .int
def R_CR : String := "AlexanderMatrix$CrossingRow"
def F_CR : u_T := fun k => match k with
  | 0 => ("AlexanderMatrix$CrossingRow", "signs", "[I", true)
  | 1 => ("AlexanderMatrix$CrossingRow", "labels", "[I", true)
  | _ => ("AlexanderMatrix$CrossingRow", "count", "I", false)
def t_CR : Nat → FieldType := fun k => match k with
  | 0 => .array .int
  | 1 => .array .int
  | _ => .int
def R_DT : String := "AlexanderMatrix$Determinant"
def F_DT : u_T := fun k => match k with
  | 0 => ("AlexanderMatrix$Determinant", "cells", "[LAlexanderMatrix$Polynomial;", true)
  | 1 => ("AlexanderMatrix$Determinant", "product", "LAlexanderMatrix$Polynomial;", true)
  | _ => ("AlexanderMatrix$Determinant", "one", "LAlexanderMatrix$Polynomial;", true)
def t_DT : Nat → FieldType := fun k => match k with
  | 0 => .array (.object "AlexanderMatrix$Polynomial")
  | 1 => .object "AlexanderMatrix$Polynomial"
  | _ => .object "AlexanderMatrix$Polynomial"
def R_DR : String := "AlexanderMatrix$DiagramRules"
def F_DR : u_T := fun k => match k with
  | 0 => ("AlexanderMatrix$DiagramRules", "partners", "[I", true)
  | 1 => ("AlexanderMatrix$DiagramRules", "pieces", "[I", true)
  | 2 => ("AlexanderMatrix$DiagramRules", "surplus", "[I", true)
  | _ => ("AlexanderMatrix$DiagramRules", "seen", "[Z", true)
def t_DR : Nat → FieldType := fun k => match k with
  | 0 => .array .int
  | 1 => .array .int
  | 2 => .array .int
  | _ => .array .boolean
def R_ET : String := "AlexanderMatrix$EntryTable"
def F_ET : u_T := fun k => match k with
  | 0 => ("AlexanderMatrix$EntryTable", "constants", "[[I", true)
  | 1 => ("AlexanderMatrix$EntryTable", "slopes", "[[I", true)
  | 2 => ("AlexanderMatrix$EntryTable", "rows", "I", false)
  | _ => ("AlexanderMatrix$EntryTable", "columns", "I", false)
def t_ET : Nat → FieldType := fun k => match k with
  | 0 => .array (.array .int)
  | 1 => .array (.array .int)
  | 2 => .int
  | _ => .int
def R_MT : String := "AlexanderMatrix$MinorTaker"
def F_MT : u_T := fun k => match k with
  | 0 => ("AlexanderMatrix$MinorTaker", "determinant", "LAlexanderMatrix$Determinant;", true)
  | 1 => ("AlexanderMatrix$MinorTaker", "last", "LAlexanderMatrix$Polynomial;", true)
  | 2 => ("AlexanderMatrix$MinorTaker", "lastRow", "I", false)
  | 3 => ("AlexanderMatrix$MinorTaker", "lastColumn", "I", false)
  | _ => ("AlexanderMatrix$MinorTaker", "known", "Z", false)
def t_MT : Nat → FieldType := fun k => match k with
  | 0 => .object "AlexanderMatrix$Determinant"
  | 1 => .object "AlexanderMatrix$Polynomial"
  | 2 => .int
  | 3 => .int
  | _ => .boolean
def R_MR : String := "AlexanderMatrix$ModularRank"
def F_MR : u_T := fun k => match k with
  | _ => ("AlexanderMatrix$ModularRank", "cells", "[[I", true)
def t_MR : Nat → FieldType := fun k => match k with
  | _ => .array (.array .int)
def R_PO : String := "AlexanderMatrix$Polynomial"
def F_PO : u_T := fun k => match k with
  | 0 => ("AlexanderMatrix$Polynomial", "coefficients", "[J", true)
  | _ => ("AlexanderMatrix$Polynomial", "degree", "I", false)
def t_PO : Nat → FieldType := fun k => match k with
  | 0 => .array .long
  | _ => .int
def R_MM : String := "AlexanderMatrixModel"
def F_MM : u_T := fun k => match k with
  | 0 => ("AlexanderMatrixModel", "thrown", "I", false)
  | 1 => ("AlexanderMatrixModel", "put", "I", false)
  | 2 => ("AlexanderMatrixModel", "wrong", "I", false)
  | 3 => ("AlexanderMatrixModel", "putSign", "[I", true)
  | 4 => ("AlexanderMatrixModel", "putLabel", "[I", true)
  | 5 => ("AlexanderMatrixModel", "n", "I", false)
  | 6 => ("AlexanderMatrixModel", "circles", "I", false)
  | 7 => ("AlexanderMatrixModel", "oldN", "I", false)
  | 8 => ("AlexanderMatrixModel", "oldCircles", "I", false)
  | 9 => ("AlexanderMatrixModel", "sign", "[I", true)
  | 10 => ("AlexanderMatrixModel", "label", "[I", true)
  | 11 => ("AlexanderMatrixModel", "oldSign", "[I", true)
  | 12 => ("AlexanderMatrixModel", "oldLabel", "[I", true)
  | 13 => ("AlexanderMatrixModel", "labels", "I", false)
  | 14 => ("AlexanderMatrixModel", "row", "[I", true)
  | 15 => ("AlexanderMatrixModel", "fresh", "[I", true)
  | 16 => ("AlexanderMatrixModel", "piece", "[I", true)
  | 17 => ("AlexanderMatrixModel", "faces", "I", false)
  | 18 => ("AlexanderMatrixModel", "faceOf", "[I", true)
  | 19 => ("AlexanderMatrixModel", "arcs", "I", false)
  | 20 => ("AlexanderMatrixModel", "arcLeast", "[I", true)
  | 21 => ("AlexanderMatrixModel", "one", "[I", true)
  | 22 => ("AlexanderMatrixModel", "two", "[I", true)
  | 23 => ("AlexanderMatrixModel", "sum", "[J", true)
  | 24 => ("AlexanderMatrixModel", "minors", "I", false)
  | 25 => ("AlexanderMatrixModel", "all", "[J", true)
  | 26 => ("AlexanderMatrixModel", "polynomial", "[J", true)
  | 27 => ("AlexanderMatrixModel", "left", "[J", true)
  | 28 => ("AlexanderMatrixModel", "known", "Z", false)
  | _ => ("AlexanderMatrixModel", "grid", "[I", true)
def t_MM : Nat → FieldType := fun k => match k with
  | 0 => .int
  | 1 => .int
  | 2 => .int
  | 3 => .array .int
  | 4 => .array .int
  | 5 => .int
  | 6 => .int
  | 7 => .int
  | 8 => .int
  | 9 => .array .int
  | 10 => .array .int
  | 11 => .array .int
  | 12 => .array .int
  | 13 => .int
  | 14 => .array .int
  | 15 => .array .int
  | 16 => .array .int
  | 17 => .int
  | 18 => .array .int
  | 19 => .int
  | 20 => .array .int
  | 21 => .array .int
  | 22 => .array .int
  | 23 => .array .long
  | 24 => .int
  | 25 => .array .long
  | 26 => .array .long
  | 27 => .array .long
  | 28 => .boolean
  | _ => .array .int
abbrev vwCl : List vw_C := [(R_AM, F_AM, 10), (R_AL, F_AL, 5), (R_CR, F_CR, 3), (R_DT, F_DT, 3), (R_DR, F_DR, 4), (R_ET, F_ET, 4), (R_MT, F_MT, 5), (R_MR, F_MR, 1), (R_PO, F_PO, 2), (R_MM, F_MM, 30)]
theorem n_AM : ∀ a, a < 10 → ∀ b, b < 10 → a ≠ b → (F_AM a).2.1 ≠ (F_AM b).2.1 := by decide +kernel
theorem t_AM_ok : ∀ k, k < 10 → parseFieldDescriptor (F_AM k).2.2.1 = some (t_AM k) := by decide +kernel
theorem n_AL : ∀ a, a < 5 → ∀ b, b < 5 → a ≠ b → (F_AL a).2.1 ≠ (F_AL b).2.1 := by decide +kernel
theorem t_AL_ok : ∀ k, k < 5 → parseFieldDescriptor (F_AL k).2.2.1 = some (t_AL k) := by decide +kernel
theorem n_CR : ∀ a, a < 3 → ∀ b, b < 3 → a ≠ b → (F_CR a).2.1 ≠ (F_CR b).2.1 := by decide +kernel
theorem t_CR_ok : ∀ k, k < 3 → parseFieldDescriptor (F_CR k).2.2.1 = some (t_CR k) := by decide +kernel
theorem n_DT : ∀ a, a < 3 → ∀ b, b < 3 → a ≠ b → (F_DT a).2.1 ≠ (F_DT b).2.1 := by decide +kernel
theorem t_DT_ok : ∀ k, k < 3 → parseFieldDescriptor (F_DT k).2.2.1 = some (t_DT k) := by decide +kernel
theorem n_DR : ∀ a, a < 4 → ∀ b, b < 4 → a ≠ b → (F_DR a).2.1 ≠ (F_DR b).2.1 := by decide +kernel
theorem t_DR_ok : ∀ k, k < 4 → parseFieldDescriptor (F_DR k).2.2.1 = some (t_DR k) := by decide +kernel
theorem n_ET : ∀ a, a < 4 → ∀ b, b < 4 → a ≠ b → (F_ET a).2.1 ≠ (F_ET b).2.1 := by decide +kernel
theorem t_ET_ok : ∀ k, k < 4 → parseFieldDescriptor (F_ET k).2.2.1 = some (t_ET k) := by decide +kernel
theorem n_MT : ∀ a, a < 5 → ∀ b, b < 5 → a ≠ b → (F_MT a).2.1 ≠ (F_MT b).2.1 := by decide +kernel
theorem t_MT_ok : ∀ k, k < 5 → parseFieldDescriptor (F_MT k).2.2.1 = some (t_MT k) := by decide +kernel
theorem n_MR : ∀ a, a < 1 → ∀ b, b < 1 → a ≠ b → (F_MR a).2.1 ≠ (F_MR b).2.1 := by decide +kernel
theorem t_MR_ok : ∀ k, k < 1 → parseFieldDescriptor (F_MR k).2.2.1 = some (t_MR k) := by decide +kernel
theorem n_PO : ∀ a, a < 2 → ∀ b, b < 2 → a ≠ b → (F_PO a).2.1 ≠ (F_PO b).2.1 := by decide +kernel
theorem t_PO_ok : ∀ k, k < 2 → parseFieldDescriptor (F_PO k).2.2.1 = some (t_PO k) := by decide +kernel
theorem n_MM : ∀ a, a < 30 → ∀ b, b < 30 → a ≠ b → (F_MM a).2.1 ≠ (F_MM b).2.1 := by decide +kernel
theorem t_MM_ok : ∀ k, k < 30 → parseFieldDescriptor (F_MM k).2.2.1 = some (t_MM k) := by decide +kernel
-- methods
abbrev b_AM_init : ByteArray := prog_1_method_1_code
def y_AM_init : MethodName := ⟨"AlexanderMatrix", "<init>", "()V"⟩
abbrev b_JO_init : ByteArray := object_method_1_code
def y_JO_init : MethodName := ⟨"java/lang/Object", "<init>", "()V"⟩
abbrev b_CR_init : ByteArray := prog_3_method_1_code
def y_CR_init : MethodName := ⟨"AlexanderMatrix$CrossingRow", "<init>", "()V"⟩
abbrev b_DR_init : ByteArray := prog_5_method_1_code
def y_DR_init : MethodName := ⟨"AlexanderMatrix$DiagramRules", "<init>", "()V"⟩
abbrev b_AL_init : ByteArray := prog_2_method_1_code
def y_AL_init : MethodName := ⟨"AlexanderMatrix$ArcList", "<init>", "()V"⟩
abbrev b_ET_init : ByteArray := prog_6_method_1_code
def y_ET_init : MethodName := ⟨"AlexanderMatrix$EntryTable", "<init>", "()V"⟩
abbrev b_MT_init : ByteArray := prog_7_method_1_code
def y_MT_init : MethodName := ⟨"AlexanderMatrix$MinorTaker", "<init>", "()V"⟩
abbrev b_DT_init : ByteArray := prog_4_method_1_code
def y_DT_init : MethodName := ⟨"AlexanderMatrix$Determinant", "<init>", "()V"⟩
abbrev b_PO_init : ByteArray := prog_9_method_1_code
def y_PO_init : MethodName := ⟨"AlexanderMatrix$Polynomial", "<init>", "()V"⟩
abbrev b_PO_setLinear : ByteArray := prog_9_method_7_code
def y_PO_setLinear : MethodName := ⟨"AlexanderMatrix$Polynomial", "setLinear", "(JJ)V"⟩
abbrev b_PO_setZero : ByteArray := prog_9_method_6_code
def y_PO_setZero : MethodName := ⟨"AlexanderMatrix$Polynomial", "setZero", "()V"⟩
abbrev b_PO_lowerDegree : ByteArray := prog_9_method_13_code
def y_PO_lowerDegree : MethodName := ⟨"AlexanderMatrix$Polynomial", "lowerDegree", "(I)V"⟩
abbrev b_MR_init : ByteArray := prog_8_method_1_code
def y_MR_init : MethodName := ⟨"AlexanderMatrix$ModularRank", "<init>", "()V"⟩
abbrev b_AM_crossing : ByteArray := prog_1_method_2_code
def y_AM_crossing : MethodName := ⟨"AlexanderMatrix", "crossing", "(IIIII)I"⟩
abbrev b_AM_isLabel : ByteArray := prog_1_method_15_code
def y_AM_isLabel : MethodName := ⟨"AlexanderMatrix", "isLabel", "(I)Z"⟩
abbrev b_CR_append : ByteArray := prog_3_method_6_code
def y_CR_append : MethodName := ⟨"AlexanderMatrix$CrossingRow", "append", "(IIIII)I"⟩
abbrev b_CR_write : ByteArray := prog_3_method_20_code
def y_CR_write : MethodName := ⟨"AlexanderMatrix$CrossingRow", "write", "(IIIIII)V"⟩
abbrev b_AM_check : ByteArray := prog_1_method_3_code
def y_AM_check : MethodName := ⟨"AlexanderMatrix", "check", "(I)I"⟩
abbrev b_DR_firstBroken : ByteArray := prog_5_method_2_code
def y_DR_firstBroken : MethodName := ⟨"AlexanderMatrix$DiagramRules", "firstBroken", "(LAlexanderMatrix$CrossingRow;)I"⟩
abbrev b_CR_places : ByteArray := prog_3_method_3_code
def y_CR_places : MethodName := ⟨"AlexanderMatrix$CrossingRow", "places", "()I"⟩
abbrev b_JM_min : ByteArray := prog_12_method_69_code
def y_JM_min : MethodName := ⟨"java/lang/Math", "min", "(II)I"⟩
abbrev b_DR_findPartners : ByteArray := prog_5_method_3_code
def y_DR_findPartners : MethodName := ⟨"AlexanderMatrix$DiagramRules", "findPartners", "(LAlexanderMatrix$CrossingRow;I)Z"⟩
abbrev b_CR_labelAt : ByteArray := prog_3_method_9_code
def y_CR_labelAt : MethodName := ⟨"AlexanderMatrix$CrossingRow", "labelAt", "(I)I"⟩
abbrev b_DR_partnersAreEdges : ByteArray := prog_5_method_4_code
def y_DR_partnersAreEdges : MethodName := ⟨"AlexanderMatrix$DiagramRules", "partnersAreEdges", "(LAlexanderMatrix$CrossingRow;I)Z"⟩
abbrev b_CR_goesIn : ByteArray := prog_3_method_14_code
def y_CR_goesIn : MethodName := ⟨"AlexanderMatrix$CrossingRow", "goesIn", "(I)Z"⟩
abbrev b_CR_lowerIn : ByteArray := prog_3_method_10_code
def y_CR_lowerIn : MethodName := ⟨"AlexanderMatrix$CrossingRow", "lowerIn", "(I)I"⟩
abbrev b_CR_upperIn : ByteArray := prog_3_method_12_code
def y_CR_upperIn : MethodName := ⟨"AlexanderMatrix$CrossingRow", "upperIn", "(I)I"⟩
abbrev b_CR_signOf : ByteArray := prog_3_method_8_code
def y_CR_signOf : MethodName := ⟨"AlexanderMatrix$CrossingRow", "signOf", "(I)I"⟩
abbrev b_CR_has : ByteArray := prog_3_method_4_code
def y_CR_has : MethodName := ⟨"AlexanderMatrix$CrossingRow", "has", "(I)Z"⟩
abbrev b_DR_findPieces : ByteArray := prog_5_method_5_code
def y_DR_findPieces : MethodName := ⟨"AlexanderMatrix$DiagramRules", "findPieces", "(I)V"⟩
abbrev b_DR_pieceAt : ByteArray := prog_5_method_6_code
def y_DR_pieceAt : MethodName := ⟨"AlexanderMatrix$DiagramRules", "pieceAt", "(I)I"⟩
abbrev b_DR_piecesAreSpheres : ByteArray := prog_5_method_7_code
def y_DR_piecesAreSpheres : MethodName := ⟨"AlexanderMatrix$DiagramRules", "piecesAreSpheres", "(I)Z"⟩
abbrev b_JA_fill : ByteArray := prog_14_method_103_code
def y_JA_fill : MethodName := ⟨"java/util/Arrays", "fill", "([II)V"⟩
abbrev b_DR_countFaces : ByteArray := prog_5_method_8_code
def y_DR_countFaces : MethodName := ⟨"AlexanderMatrix$DiagramRules", "countFaces", "(I)V"⟩
abbrev b_DR_goRound : ByteArray := prog_5_method_9_code
def y_DR_goRound : MethodName := ⟨"AlexanderMatrix$DiagramRules", "goRound", "(I)V"⟩
abbrev b_DR_addSurplus : ByteArray := prog_5_method_10_code
def y_DR_addSurplus : MethodName := ⟨"AlexanderMatrix$DiagramRules", "addSurplus", "(II)V"⟩
abbrev b_CR_copyFrom : ByteArray := prog_3_method_7_code
def y_CR_copyFrom : MethodName := ⟨"AlexanderMatrix$CrossingRow", "copyFrom", "(LAlexanderMatrix$CrossingRow;)V"⟩
abbrev b_AM_readDiagram : ByteArray := prog_1_method_13_code
def y_AM_readDiagram : MethodName := ⟨"AlexanderMatrix", "readDiagram", "()V"⟩
abbrev b_AL_read : ByteArray := prog_2_method_2_code
def y_AL_read : MethodName := ⟨"AlexanderMatrix$ArcList", "read", "(LAlexanderMatrix$CrossingRow;I)V"⟩
abbrev b_CR_size : ByteArray := prog_3_method_2_code
def y_CR_size : MethodName := ⟨"AlexanderMatrix$CrossingRow", "size", "()I"⟩
abbrev b_CR_upperOut : ByteArray := prog_3_method_13_code
def y_CR_upperOut : MethodName := ⟨"AlexanderMatrix$CrossingRow", "upperOut", "(I)I"⟩
abbrev b_AL_joinOver : ByteArray := prog_2_method_7_code
def y_AL_joinOver : MethodName := ⟨"AlexanderMatrix$ArcList", "joinOver", "(II)V"⟩
abbrev b_JM_max : ByteArray := prog_12_method_65_code
def y_JM_max : MethodName := ⟨"java/lang/Math", "max", "(II)I"⟩
abbrev b_AL_insert : ByteArray := prog_2_method_8_code
def y_AL_insert : MethodName := ⟨"AlexanderMatrix$ArcList", "insert", "(I)V"⟩
abbrev b_ET_read : ByteArray := prog_6_method_2_code
def y_ET_read : MethodName := ⟨"AlexanderMatrix$EntryTable", "read", "(LAlexanderMatrix$CrossingRow;LAlexanderMatrix$ArcList;)V"⟩
abbrev b_AL_size : ByteArray := prog_2_method_3_code
def y_AL_size : MethodName := ⟨"AlexanderMatrix$ArcList", "size", "()I"⟩
abbrev b_AL_numberAt : ByteArray := prog_2_method_6_code
def y_AL_numberAt : MethodName := ⟨"AlexanderMatrix$ArcList", "numberAt", "(I)I"⟩
abbrev b_CR_lowerOut : ByteArray := prog_3_method_11_code
def y_CR_lowerOut : MethodName := ⟨"AlexanderMatrix$CrossingRow", "lowerOut", "(I)I"⟩
abbrev b_ET_add : ByteArray := prog_6_method_8_code
def y_ET_add : MethodName := ⟨"AlexanderMatrix$EntryTable", "add", "(IIII)V"⟩
abbrev b_ET_has : ByteArray := prog_6_method_5_code
def y_ET_has : MethodName := ⟨"AlexanderMatrix$EntryTable", "has", "(II)Z"⟩
abbrev b_MT_forget : ByteArray := prog_7_method_2_code
def y_MT_forget : MethodName := ⟨"AlexanderMatrix$MinorTaker", "forget", "()V"⟩
abbrev b_CR_clear : ByteArray := prog_3_method_5_code
def y_CR_clear : MethodName := ⟨"AlexanderMatrix$CrossingRow", "clear", "()V"⟩
abbrev b_AM_many : ByteArray := prog_1_method_4_code
def y_AM_many : MethodName := ⟨"AlexanderMatrix", "many", "(I)J"⟩
abbrev b_AM_normalForm : ByteArray := prog_1_method_14_code
def y_AM_normalForm : MethodName := ⟨"AlexanderMatrix", "normalForm", "()LAlexanderMatrix$Polynomial;"⟩
abbrev b_ET_rows : ByteArray := prog_6_method_3_code
def y_ET_rows : MethodName := ⟨"AlexanderMatrix$EntryTable", "rows", "()I"⟩
abbrev b_ET_columns : ByteArray := prog_6_method_4_code
def y_ET_columns : MethodName := ⟨"AlexanderMatrix$EntryTable", "columns", "()I"⟩
abbrev b_MT_take : ByteArray := prog_7_method_3_code
def y_MT_take : MethodName := ⟨"AlexanderMatrix$MinorTaker", "take", "(LAlexanderMatrix$EntryTable;II)LAlexanderMatrix$Polynomial;"⟩
abbrev b_MT_fillCells : ByteArray := prog_7_method_4_code
def y_MT_fillCells : MethodName := ⟨"AlexanderMatrix$MinorTaker", "fillCells", "(LAlexanderMatrix$EntryTable;I)V"⟩
abbrev b_ET_constantAt : ByteArray := prog_6_method_6_code
def y_ET_constantAt : MethodName := ⟨"AlexanderMatrix$EntryTable", "constantAt", "(II)I"⟩
abbrev b_ET_slopeAt : ByteArray := prog_6_method_7_code
def y_ET_slopeAt : MethodName := ⟨"AlexanderMatrix$EntryTable", "slopeAt", "(II)I"⟩
abbrev b_DT_put : ByteArray := prog_4_method_2_code
def y_DT_put : MethodName := ⟨"AlexanderMatrix$Determinant", "put", "(IIII)V"⟩
abbrev b_DT_isInside : ByteArray := prog_4_method_8_code
def y_DT_isInside : MethodName := ⟨"AlexanderMatrix$Determinant", "isInside", "(I)Z"⟩
abbrev b_DT_cell : ByteArray := prog_4_method_7_code
def y_DT_cell : MethodName := ⟨"AlexanderMatrix$Determinant", "cell", "(II)LAlexanderMatrix$Polynomial;"⟩
abbrev b_DT_evaluate : ByteArray := prog_4_method_3_code
def y_DT_evaluate : MethodName := ⟨"AlexanderMatrix$Determinant", "evaluate", "(ILAlexanderMatrix$Polynomial;)V"⟩
abbrev b_DT_findPivot : ByteArray := prog_4_method_4_code
def y_DT_findPivot : MethodName := ⟨"AlexanderMatrix$Determinant", "findPivot", "(II)I"⟩
abbrev b_PO_isZero : ByteArray := prog_9_method_3_code
def y_PO_isZero : MethodName := ⟨"AlexanderMatrix$Polynomial", "isZero", "()Z"⟩
abbrev b_DT_exchangeRows : ByteArray := prog_4_method_5_code
def y_DT_exchangeRows : MethodName := ⟨"AlexanderMatrix$Determinant", "exchangeRows", "(II)V"⟩
abbrev b_DT_clearBelow : ByteArray := prog_4_method_6_code
def y_DT_clearBelow : MethodName := ⟨"AlexanderMatrix$Determinant", "clearBelow", "(IILAlexanderMatrix$Polynomial;)V"⟩
abbrev b_PO_addProduct : ByteArray := prog_9_method_9_code
def y_PO_addProduct : MethodName := ⟨"AlexanderMatrix$Polynomial", "addProduct", "(LAlexanderMatrix$Polynomial;LAlexanderMatrix$Polynomial;J)V"⟩
abbrev b_PO_coefficient : ByteArray := prog_9_method_4_code
def y_PO_coefficient : MethodName := ⟨"AlexanderMatrix$Polynomial", "coefficient", "(I)J"⟩
abbrev b_PO_addShifted : ByteArray := prog_9_method_12_code
def y_PO_addShifted : MethodName := ⟨"AlexanderMatrix$Polynomial", "addShifted", "(LAlexanderMatrix$Polynomial;IJ)V"⟩
abbrev b_PO_setQuotient : ByteArray := prog_9_method_10_code
def y_PO_setQuotient : MethodName := ⟨"AlexanderMatrix$Polynomial", "setQuotient", "(LAlexanderMatrix$Polynomial;LAlexanderMatrix$Polynomial;)V"⟩
abbrev b_PO_setMultiple : ByteArray := prog_9_method_8_code
def y_PO_setMultiple : MethodName := ⟨"AlexanderMatrix$Polynomial", "setMultiple", "(LAlexanderMatrix$Polynomial;J)V"⟩
abbrev b_PO_setNormalFormOf : ByteArray := prog_9_method_11_code
def y_PO_setNormalFormOf : MethodName := ⟨"AlexanderMatrix$Polynomial", "setNormalFormOf", "(LAlexanderMatrix$Polynomial;)V"⟩
abbrev b_PO_degree : ByteArray := prog_9_method_2_code
def y_PO_degree : MethodName := ⟨"AlexanderMatrix$Polynomial", "degree", "()I"⟩
abbrev b_PO_valueAt : ByteArray := prog_9_method_5_code
def y_PO_valueAt : MethodName := ⟨"AlexanderMatrix$Polynomial", "valueAt", "(I)J"⟩
abbrev b_AM_arc : ByteArray := prog_1_method_5_code
def y_AM_arc : MethodName := ⟨"AlexanderMatrix", "arc", "(I)I"⟩
abbrev b_AL_numberOfLabel : ByteArray := prog_2_method_5_code
def y_AL_numberOfLabel : MethodName := ⟨"AlexanderMatrix$ArcList", "numberOfLabel", "(I)I"⟩
abbrev b_AM_least : ByteArray := prog_1_method_6_code
def y_AM_least : MethodName := ⟨"AlexanderMatrix", "least", "(I)I"⟩
abbrev b_AL_leastLabel : ByteArray := prog_2_method_4_code
def y_AL_leastLabel : MethodName := ⟨"AlexanderMatrix$ArcList", "leastLabel", "(I)I"⟩
abbrev b_AM_entry : ByteArray := prog_1_method_7_code
def y_AM_entry : MethodName := ⟨"AlexanderMatrix", "entry", "(III)I"⟩
abbrev b_AM_minor : ByteArray := prog_1_method_8_code
def y_AM_minor : MethodName := ⟨"AlexanderMatrix", "minor", "(III)J"⟩
abbrev b_AM_alexander : ByteArray := prog_1_method_9_code
def y_AM_alexander : MethodName := ⟨"AlexanderMatrix", "alexander", "(I)J"⟩
abbrev b_AM_rank : ByteArray := prog_1_method_10_code
def y_AM_rank : MethodName := ⟨"AlexanderMatrix", "rank", "(II)I"⟩
abbrev b_AM_isSmallPrime : ByteArray := prog_1_method_16_code
def y_AM_isSmallPrime : MethodName := ⟨"AlexanderMatrix", "isSmallPrime", "(I)Z"⟩
abbrev b_MR_rankOf : ByteArray := prog_8_method_2_code
def y_MR_rankOf : MethodName := ⟨"AlexanderMatrix$ModularRank", "rankOf", "(LAlexanderMatrix$EntryTable;II)I"⟩
abbrev b_JM_floorMod : ByteArray := prog_12_method_50_code
def y_JM_floorMod : MethodName := ⟨"java/lang/Math", "floorMod", "(II)I"⟩
abbrev b_MR_findPivot : ByteArray := prog_8_method_3_code
def y_MR_findPivot : MethodName := ⟨"AlexanderMatrix$ModularRank", "findPivot", "(III)I"⟩
abbrev b_MR_exchangeRows : ByteArray := prog_8_method_4_code
def y_MR_exchangeRows : MethodName := ⟨"AlexanderMatrix$ModularRank", "exchangeRows", "(II)V"⟩
abbrev b_MR_clearBelow : ByteArray := prog_8_method_5_code
def y_MR_clearBelow : MethodName := ⟨"AlexanderMatrix$ModularRank", "clearBelow", "(IIII)V"⟩
abbrev b_AM_change : ByteArray := prog_1_method_11_code
def y_AM_change : MethodName := ⟨"AlexanderMatrix", "change", "(I)Z"⟩
abbrev b_CR_swapStrands : ByteArray := prog_3_method_15_code
def y_CR_swapStrands : MethodName := ⟨"AlexanderMatrix$CrossingRow", "swapStrands", "(I)V"⟩
abbrev b_AM_smooth : ByteArray := prog_1_method_12_code
def y_AM_smooth : MethodName := ⟨"AlexanderMatrix", "smooth", "(I)Z"⟩
abbrev b_CR_closingsAt : ByteArray := prog_3_method_16_code
def y_CR_closingsAt : MethodName := ⟨"AlexanderMatrix$CrossingRow", "closingsAt", "(I)I"⟩
abbrev b_CR_joinStrands : ByteArray := prog_3_method_17_code
def y_CR_joinStrands : MethodName := ⟨"AlexanderMatrix$CrossingRow", "joinStrands", "(I)V"⟩
abbrev b_CR_makeOne : ByteArray := prog_3_method_18_code
def y_CR_makeOne : MethodName := ⟨"AlexanderMatrix$CrossingRow", "makeOne", "(II)V"⟩
abbrev b_CR_remove : ByteArray := prog_3_method_19_code
def y_CR_remove : MethodName := ⟨"AlexanderMatrix$CrossingRow", "remove", "(I)V"⟩
abbrev b_MM_init : ByteArray := prog_11_method_1_code
def y_MM_init : MethodName := ⟨"AlexanderMatrixModel", "<init>", "()V"⟩
abbrev b_MM_crossing : ByteArray := prog_11_method_15_code
def y_MM_crossing : MethodName := ⟨"AlexanderMatrixModel", "crossing", "(IIIII)I"⟩
abbrev b_MM_check : ByteArray := prog_11_method_21_code
def y_MM_check : MethodName := ⟨"AlexanderMatrixModel", "check", "(I)I"⟩
abbrev b_MM_take : ByteArray := prog_11_method_16_code
def y_MM_take : MethodName := ⟨"AlexanderMatrixModel", "take", "()V"⟩
abbrev b_MM_fault : ByteArray := prog_11_method_20_code
def y_MM_fault : MethodName := ⟨"AlexanderMatrixModel", "fault", "()I"⟩
abbrev b_MM_badLabel : ByteArray := prog_11_method_18_code
def y_MM_badLabel : MethodName := ⟨"AlexanderMatrixModel", "badLabel", "(Z)I"⟩
abbrev b_MM_sort : ByteArray := prog_11_method_9_code
def y_MM_sort : MethodName := ⟨"AlexanderMatrixModel", "sort", "()V"⟩
abbrev b_MM_placeOf : ByteArray := prog_11_method_5_code
def y_MM_placeOf : MethodName := ⟨"AlexanderMatrixModel", "placeOf", "(IZ)I"⟩
abbrev b_MM_isOut : ByteArray := prog_11_method_3_code
def y_MM_isOut : MethodName := ⟨"AlexanderMatrixModel", "isOut", "(I)Z"⟩
abbrev b_MM_badPiece : ByteArray := prog_11_method_19_code
def y_MM_badPiece : MethodName := ⟨"AlexanderMatrixModel", "badPiece", "()I"⟩
abbrev b_MM_hang : ByteArray := prog_11_method_10_code
def y_MM_hang : MethodName := ⟨"AlexanderMatrixModel", "hang", "()V"⟩
abbrev b_MM_findFaces : ByteArray := prog_11_method_13_code
def y_MM_findFaces : MethodName := ⟨"AlexanderMatrixModel", "findFaces", "()V"⟩
abbrev b_MM_rowOf : ByteArray := prog_11_method_12_code
def y_MM_rowOf : MethodName := ⟨"AlexanderMatrixModel", "rowOf", "(I)I"⟩
abbrev b_MM_turn : ByteArray := prog_11_method_11_code
def y_MM_turn : MethodName := ⟨"AlexanderMatrixModel", "turn", "(I)I"⟩
abbrev b_MM_facesAt : ByteArray := prog_11_method_14_code
def y_MM_facesAt : MethodName := ⟨"AlexanderMatrixModel", "facesAt", "(I)I"⟩
abbrev b_MM_back : ByteArray := prog_11_method_17_code
def y_MM_back : MethodName := ⟨"AlexanderMatrixModel", "back", "()V"⟩
abbrev b_MM_many : ByteArray := prog_11_method_37_code
def y_MM_many : MethodName := ⟨"AlexanderMatrixModel", "many", "(I)J"⟩
abbrev b_MM_know : ByteArray := prog_11_method_31_code
def y_MM_know : MethodName := ⟨"AlexanderMatrixModel", "know", "()V"⟩
abbrev b_MM_fill : ByteArray := prog_11_method_26_code
def y_MM_fill : MethodName := ⟨"AlexanderMatrixModel", "fill", "()V"⟩
abbrev b_MM_findArcs : ByteArray := prog_11_method_23_code
def y_MM_findArcs : MethodName := ⟨"AlexanderMatrixModel", "findArcs", "()V"⟩
abbrev b_MM_arcOf : ByteArray := prog_11_method_22_code
def y_MM_arcOf : MethodName := ⟨"AlexanderMatrixModel", "arcOf", "(I)I"⟩
abbrev b_MM_isUpper : ByteArray := prog_11_method_4_code
def y_MM_isUpper : MethodName := ⟨"AlexanderMatrixModel", "isUpper", "(I)Z"⟩
abbrev b_MM_across : ByteArray := prog_11_method_6_code
def y_MM_across : MethodName := ⟨"AlexanderMatrixModel", "across", "(I)I"⟩
abbrev b_MM_next : ByteArray := prog_11_method_7_code
def y_MM_next : MethodName := ⟨"AlexanderMatrixModel", "next", "(I)I"⟩
abbrev b_MM_arcNumber : ByteArray := prog_11_method_24_code
def y_MM_arcNumber : MethodName := ⟨"AlexanderMatrixModel", "arcNumber", "(I)I"⟩
abbrev b_MM_addEntry : ByteArray := prog_11_method_25_code
def y_MM_addEntry : MethodName := ⟨"AlexanderMatrixModel", "addEntry", "(IIII)V"⟩
abbrev b_MM_sumUp : ByteArray := prog_11_method_30_code
def y_MM_sumUp : MethodName := ⟨"AlexanderMatrixModel", "sumUp", "(I)V"⟩
abbrev b_MM_bits : ByteArray := prog_11_method_27_code
def y_MM_bits : MethodName := ⟨"AlexanderMatrixModel", "bits", "(I)I"⟩
abbrev b_MM_carry : ByteArray := prog_11_method_29_code
def y_MM_carry : MethodName := ⟨"AlexanderMatrixModel", "carry", "(III)V"⟩
abbrev b_MM_behind : ByteArray := prog_11_method_28_code
def y_MM_behind : MethodName := ⟨"AlexanderMatrixModel", "behind", "(II)I"⟩
abbrev b_MM_findDivisor : ByteArray := prog_11_method_34_code
def y_MM_findDivisor : MethodName := ⟨"AlexanderMatrixModel", "findDivisor", "()V"⟩
abbrev b_MM_lowest : ByteArray := prog_11_method_32_code
def y_MM_lowest : MethodName := ⟨"AlexanderMatrixModel", "lowest", "(I)I"⟩
abbrev b_MM_divides : ByteArray := prog_11_method_33_code
def y_MM_divides : MethodName := ⟨"AlexanderMatrixModel", "divides", "(II)Z"⟩
abbrev b_MM_degree : ByteArray := prog_11_method_35_code
def y_MM_degree : MethodName := ⟨"AlexanderMatrixModel", "degree", "()I"⟩
abbrev b_MM_valueAt : ByteArray := prog_11_method_36_code
def y_MM_valueAt : MethodName := ⟨"AlexanderMatrixModel", "valueAt", "(I)J"⟩
abbrev b_MM_arc : ByteArray := prog_11_method_38_code
def y_MM_arc : MethodName := ⟨"AlexanderMatrixModel", "arc", "(I)I"⟩
abbrev b_MM_least : ByteArray := prog_11_method_39_code
def y_MM_least : MethodName := ⟨"AlexanderMatrixModel", "least", "(I)I"⟩
abbrev b_MM_entry : ByteArray := prog_11_method_40_code
def y_MM_entry : MethodName := ⟨"AlexanderMatrixModel", "entry", "(III)I"⟩
abbrev b_MM_minor : ByteArray := prog_11_method_41_code
def y_MM_minor : MethodName := ⟨"AlexanderMatrixModel", "minor", "(III)J"⟩
abbrev b_MM_alexander : ByteArray := prog_11_method_42_code
def y_MM_alexander : MethodName := ⟨"AlexanderMatrixModel", "alexander", "(I)J"⟩
abbrev b_MM_rank : ByteArray := prog_11_method_46_code
def y_MM_rank : MethodName := ⟨"AlexanderMatrixModel", "rank", "(II)I"⟩
abbrev b_MM_isPrime : ByteArray := prog_11_method_43_code
def y_MM_isPrime : MethodName := ⟨"AlexanderMatrixModel", "isPrime", "(I)Z"⟩
abbrev b_MM_mod : ByteArray := prog_11_method_44_code
def y_MM_mod : MethodName := ⟨"AlexanderMatrixModel", "mod", "(JI)I"⟩
abbrev b_MM_rowWith : ByteArray := prog_11_method_45_code
def y_MM_rowWith : MethodName := ⟨"AlexanderMatrixModel", "rowWith", "(II)I"⟩
abbrev b_MM_change : ByteArray := prog_11_method_47_code
def y_MM_change : MethodName := ⟨"AlexanderMatrixModel", "change", "(I)Z"⟩
abbrev b_MM_upperIn : ByteArray := prog_11_method_8_code
def y_MM_upperIn : MethodName := ⟨"AlexanderMatrixModel", "upperIn", "(I)I"⟩
abbrev b_MM_smooth : ByteArray := prog_11_method_50_code
def y_MM_smooth : MethodName := ⟨"AlexanderMatrixModel", "smooth", "(I)Z"⟩
abbrev b_MM_join : ByteArray := prog_11_method_49_code
def y_MM_join : MethodName := ⟨"AlexanderMatrixModel", "join", "(II)V"⟩
abbrev b_MM_rename : ByteArray := prog_11_method_48_code
def y_MM_rename : MethodName := ⟨"AlexanderMatrixModel", "rename", "(II)V"⟩
